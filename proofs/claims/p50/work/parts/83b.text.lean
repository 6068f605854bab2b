/-! A JAIL TOLD BY A TEXT, written and read -/
def RRS (S : VX10) : Prop := ∃ M, RR S M
theorem b8 {c : Nat} (h : c < 128) : (nI c).toInt8.toInt32 = nI c := (by decide +kernel : ∀ c : Fin 128, (nI c.val).toInt8.toInt32 = nI c.val) ⟨c, h⟩
theorem letV (x : Nat) : nI (65 + x) - 65 = nI x := by
  show nI (65 + x) - nI 65 = nI x
  rw [pk_sub (Nat.le_add_right 65 x), Nat.add_sub_cancel_left]
theorem figV (x : Nat) : nI (48 + x) - 48 = nI x := by
  show nI (48 + x) - nI 48 = nI x
  rw [pk_sub (Nat.le_add_right 48 x), Nat.add_sub_cancel_left]
theorem JR.cgb {J : VX2} {a b : AJ} (h : JR J a) (hn : aN b = aN a) (hd : ∀ x, x < aN a → aK b x = aK a x ∧ aP b x = aP a x ∧ aO b x = aO a x ∧ aL b x = aL a x ∧ aF b x = aF a x) : JR J b := by
  obtain ⟨h1, h2, h3, h4⟩ := h
  have hs : spr b = spr a := Nat.eq_of_testBit_eq fun i => by
    unfold spr
    rw [bset_bit, bset_bit, hn]
    by_cases c : i < aN a
    · rw [(hd i c).1]
    · rw [decide_eq_false c, Bool.false_and, Bool.false_and]
  have hb : bld b = bld a := Nat.eq_of_testBit_eq fun i => by
    unfold bld
    rw [bset_bit, bset_bit, hn]
    by_cases c : i < aN a
    · rw [(hd i c).1]
    · rw [decide_eq_false c, Bool.false_and, Bool.false_and]
  refine ⟨by rw [hn]; exact h1, by rw [hs]; exact h2, by rw [hb]; exact h3, fun x hx => ?_⟩
  rw [hn] at hx
  obtain ⟨g1, g2, g3, g4, g5⟩ := h4 x hx
  obtain ⟨k1, k2, k3, k4, k5⟩ := hd x hx
  exact ⟨by rw [k1]; exact g1, by rw [k2]; exact g2, by rw [k3]; exact g3, by rw [k4]; exact g4, by rw [k5]; exact g5⟩
/-- between two items, a jail drafted -/
def BT (S : VX5) (b : AJ) : Prop := S.2.2.1 = 0 ∧ S.2.2.2.2 = 1 ∧ JR S.1 b
section
variable {P : VX8} {S : VX5} {b : AJ}
theorem rd_go (e8 : P.2 3 = nI 100) {p : Nat} (hp : p < 100) {S' : VX5} (hi : S.2.2.1 ≠ 0) (e : f_X5_continues S (P.1 3 p) = some (1, S')) : RC P 3 100 (4096 - p) S p = RC P 3 100 (4096 - (p + 1)) S' (p + 1) := by
  rw [show 4096 - p = (4096 - (p + 1)) + 1 by omega]
  generalize 4096 - (p + 1) = f
  unfold RC
  rw [f_X5_read_24, if_neg (nI_ge hp (by omega)), show f_X8_get P (nI 3) (nI p) = some (P.1 3 p) from x8_get (by decide) (Nat.le_refl _) e8 hp, Option.bind_some, if_neg hi, e, Option.bind_some]
  unfold f_X5_read_61
  rw [if_neg i10, nI_1]
theorem rd_open (e8 : P.2 3 = nI 100) {p : Nat} (hp : p < 100) {S' : VX5} (hi : S.2.2.1 = 0) (e : f_X5_opens S (P.1 3 p) = some (1, S')) : RC P 3 100 (4096 - p) S p = RC P 3 100 (4096 - (p + 1)) S' (p + 1) := by
  rw [show 4096 - p = (4096 - (p + 1)) + 1 by omega]
  generalize 4096 - (p + 1) = f
  unfold RC
  rw [f_X5_read_24, if_neg (nI_ge hp (by omega)), show f_X8_get P (nI 3) (nI p) = some (P.1 3 p) from x8_get (by decide) (Nat.le_refl _) e8 hp, Option.bind_some, if_pos hi, e, Option.bind_some]
  unfold f_X5_read_61
  rw [if_neg i10, nI_1]
theorem rd_end (e8 : P.2 3 = nI 100) (hT : BT S b) : ∀ k p, p + k = 100 → (∀ i, p ≤ i → i < 100 → P.1 3 i = 32) → RC P 3 100 (4096 - p) S p = some (-9, S)
  | 0, p, hp, _ => by
    have : p = 100 := by omega
    subst this
    rw [show 4096 - 100 = 3995 + 1 by decide]
    unfold RC
    rw [f_X5_read_24, if_pos (nI_le (Nat.le_refl _) (by omega)), if_pos hT.1, if_neg (show ¬ S.2.2.2.2 = 0 by rw [hT.2.1]; decide)]
  | k + 1, p, hp, hb => by
    rw [rd_open e8 (by omega) hT.1 (S' := S) (by rw [hb p (Nat.le_refl _) (by omega)]; exact if_pos rfl)]
    exact rd_end e8 hT k (p + 1) (by omega) (fun i h1 h2 => hb i (by omega) h2)
theorem rd_let1 (e8 : P.2 3 = nI 100) (hn : aN b ≤ 8) (hT : BT S b) {B : Int32} {F : Nat} (hl : lets B F) {p x : Nat} (hp : p + 1 < 100) (hx : x < aN b) (e0 : P.1 3 p = B) (e1 : P.1 3 (p + 1) = nI (65 + x)) (h1 : zL F ≠ 1) : ∃ pt, pt 0 = nI x ∧ RC P 3 100 (4096 - p) S p = RC P 3 100 (4096 - (p + 2)) (s5 S pt B 1) (p + 2) := by
  obtain ⟨f1, f2, -, f4, f5, f6, f7, -, -, -⟩ := lets_facts hl
  have eP := x5_l0 (S := S) (pt := S.2.1) (B := B) hT.2.2.1 hn hx (v := P.1 3 (p + 1)) (by rw [e1]; exact letV x)
  have eK := x5_cok (S := S) (pt := S.2.1) (t := 0) f1 f2 f4 f5 f6 (show x < 10 by omega) eP
  rw [if_neg (show ¬ 0 + 1 = zL F by omega)] at eK
  exact ⟨upd S.2.1 0 (nI x), by rw [upd_at, if_pos rfl], (rd_open e8 (by omega) hT.1 (by rw [e0]; exact x5_open hT.2.1 hl)).trans (rd_go e8 hp f7 eK)⟩
theorem rd_let2 (e8 : P.2 3 = nI 100) (hn : aN b ≤ 8) (hT : BT S b) {B : Int32} {F : Nat} (hl : lets B F) {p x y : Nat} (hp : p + 2 < 100) (hx : x < aN b) (hy : y < aN b) (hxy : x ≠ y) (e0 : P.1 3 p = B) (e1 : P.1 3 (p + 1) = nI (65 + x)) (e2 : P.1 3 (p + 2) = nI (65 + y)) (h3 : zL F = 3) : ∃ pt, pt 0 = nI x ∧ pt 1 = nI y ∧ RC P 3 100 (4096 - p) S p = RC P 3 100 (4096 - (p + 3)) (s5 S pt B 2) (p + 3) := by
  obtain ⟨pt, p0, eR⟩ := rd_let1 e8 hn hT hl (by omega) hx e0 e1 (by omega)
  obtain ⟨f1, f2, -, -, f5, -, f7, -, -, f10⟩ := lets_facts hl
  have f10 := f10.resolve_left (fun q => by rw [q] at h3; exact absurd h3 (by decide))
  have eP := x5_l1 (S := S) (pt := pt) (B := B) hT.2.2.1 hn hy hx p0 (v := P.1 3 (p + 2)) (by rw [e2]; exact letV y)
  rw [if_neg hxy] at eP
  have eK := x5_cok (S := S) (pt := pt) (t := 1) f1 f2 f10.1 f5 f10.2 (show y < 10 by omega) eP
  rw [if_neg (show ¬ 1 + 1 = zL F by omega)] at eK
  exact ⟨upd pt 1 (nI y), by rw [upd_at, if_neg (by decide), p0], by rw [upd_at, if_pos rfl], eR.trans (rd_go e8 hp f7 eK)⟩
theorem rd_k (e8 : P.2 3 = nI 100) (hn : aN b ≤ 8) (hT : BT S b) {p x y : Nat} (hp : p + 2 < 100) (hx : x < aN b) (hy : y < aN b) (hxy : x ≠ y) (e0 : P.1 3 p = 107) (e1 : P.1 3 (p + 1) = nI (65 + x)) (e2 : P.1 3 (p + 2) = nI (65 + y)) : ∃ S', RC P 3 100 (4096 - p) S p = RC P 3 100 (4096 - (p + 3)) S' (p + 3) ∧ BT S' (aSt b x 0 y 99 0) := by
  have hl : lets 107 2 := Or.inr (Or.inr (Or.inl ⟨rfl, rfl⟩))
  obtain ⟨pt, p0, eR⟩ := rd_let1 e8 hn hT hl (by omega) hx e0 e1 (by decide)
  obtain ⟨f1, f2, -, -, f5, -, f7, -, -, f10⟩ := lets_facts hl
  have f10 := f10.resolve_left (by decide)
  have eP := x5_l1 (S := S) (pt := pt) (B := 107) hT.2.2.1 hn hy hx p0 (v := P.1 3 (p + 2)) (by rw [e2]; exact letV y)
  rw [if_neg hxy] at eP
  have eK := x5_cok (S := S) (pt := pt) (t := 1) f1 f2 f10.1 f5 f10.2 (show y < 10 by omega) eP
  rw [if_pos (show 1 + 1 = zL 2 by decide)] at eK
  obtain ⟨J', j1, j2⟩ := hT.2.2.set hn (x := x) (k := 0) (p := y) (o := 99) (l := 0) hx (by omega)
  rw [kI_lt (by omega), kI_99] at j1
  have eU0 : upd pt 1 (nI y) 0 = nI x := by rw [upd_at, if_neg (by decide), p0]
  have eU1 : upd pt 1 (nI y) 1 = nI y := by rw [upd_at, if_pos rfl]
  have eCl : f_X5_close (s5 S (upd pt 1 (nI y)) 107 2) = some (s0 S J' (upd pt 1 (nI y)) 2) := cl_107 (by rw [eU0, eU1]; exact j1)
  exact ⟨s0 S J' (upd pt 1 (nI y)) 2, eR.trans (rd_go e8 hp f7 (eK.trans (congrArg (fun o => o.bind fun r12 => some ((1 : Int32), r12)) eCl))), rfl, hT.2.1, j2⟩
theorem rd_q (e8 : P.2 3 = nI 100) (hn : aN b ≤ 8) (hT : BT S b) {p x y : Nat} (hp : p + 2 < 100) (hx : x < aN b) (hy : y < aN b) (hxy : x ≠ y) (e0 : P.1 3 p = 113) (e1 : P.1 3 (p + 1) = nI (65 + x)) (e2 : P.1 3 (p + 2) = nI (65 + y)) : ∃ S', RC P 3 100 (4096 - p) S p = RC P 3 100 (4096 - (p + 3)) S' (p + 3) ∧ BT S' (aQu b x y true) := by
  have hl : lets 113 2 := Or.inr (Or.inr (Or.inr (Or.inr (Or.inl ⟨rfl, rfl⟩))))
  obtain ⟨pt, p0, eR⟩ := rd_let1 e8 hn hT hl (by omega) hx e0 e1 (by decide)
  obtain ⟨f1, f2, -, -, f5, -, f7, -, -, f10⟩ := lets_facts hl
  have f10 := f10.resolve_left (by decide)
  have eP := x5_l1 (S := S) (pt := pt) (B := 113) hT.2.2.1 hn hy hx p0 (v := P.1 3 (p + 2)) (by rw [e2]; exact letV y)
  rw [if_neg hxy] at eP
  have eK := x5_cok (S := S) (pt := pt) (t := 1) f1 f2 f10.1 f5 f10.2 (show y < 10 by omega) eP
  rw [if_pos (show 1 + 1 = zL 2 by decide)] at eK
  obtain ⟨J', j1, j2⟩ := x2_setQ hT.2.2 hn hx hy (fun q => hxy q.symm)
  have eU0 : upd pt 1 (nI y) 0 = nI x := by rw [upd_at, if_neg (by decide), p0]
  have eU1 : upd pt 1 (nI y) 1 = nI y := by rw [upd_at, if_pos rfl]
  have eCl : f_X5_close (s5 S (upd pt 1 (nI y)) 113 2) = some (s0 S J' (upd pt 1 (nI y)) 2) := cl_113 (by rw [eU0, eU1]; exact j1)
  exact ⟨s0 S J' (upd pt 1 (nI y)) 2, eR.trans (rd_go e8 hp f7 (eK.trans (congrArg (fun o => o.bind fun r12 => some ((1 : Int32), r12)) eCl))), rfl, hT.2.1, j2⟩
theorem rd_t (e8 : P.2 3 = nI 100) (hn : aN b ≤ 8) (hT : BT S b) {B : Int32} {kd : Nat} (hk : (B = 98 ∧ kd = 5) ∨ (B = 116 ∧ kd = 1)) {p x y z : Nat} (hp : p + 3 < 100) (hx : x < aN b) (hy : y < aN b) (hz : z < aN b) (hxy : x ≠ y) (hxz : x ≠ z) (hyz : y ≠ z) (e0 : P.1 3 p = B) (e1 : P.1 3 (p + 1) = nI (65 + x)) (e2 : P.1 3 (p + 2) = nI (65 + y)) (e3 : P.1 3 (p + 3) = nI (65 + z)) : ∃ S', RC P 3 100 (4096 - p) S p = RC P 3 100 (4096 - (p + 4)) S' (p + 4) ∧ BT S' (aSt b x kd y z 0) := by
  have hl : lets B 3 := hk.elim (fun q => Or.inl ⟨q.1, rfl⟩) (fun q => Or.inr (Or.inr (Or.inr (Or.inr (Or.inr (Or.inr ⟨q.1, rfl⟩))))))
  have hkd : kd ≤ 5 := by rcases hk with ⟨-, q⟩ | ⟨-, q⟩ <;> omega
  obtain ⟨pt, p0, p1, eR⟩ := rd_let2 e8 hn hT hl (by omega) hx hy hxy e0 e1 e2 (by decide)
  obtain ⟨f1, f2, -, -, f5, -, f7, -, -, -⟩ := lets_facts hl
  have eP := x5_l2 (S := S) (pt := pt) (B := B) hT.2.2.1 hn hz hx hy p0 p1 (v := P.1 3 (p + 3)) (by rw [e3]; exact letV z)
  rw [if_neg (fun q => q.elim hxz hyz)] at eP
  have eK := x5_cok (S := S) (pt := pt) (t := 2) f1 f2 (by decide) f5 (by decide) (show z < 10 by omega) eP
  rw [if_pos (show 2 + 1 = zL 3 by decide)] at eK
  obtain ⟨J', j1, j2⟩ := hT.2.2.set hn (x := x) (k := kd) (p := y) (o := z) (l := 0) hx hkd
  rw [kI_lt (by omega), kI_lt (by omega)] at j1
  have eU0 : upd pt 2 (nI z) 0 = nI x := by rw [upd_at, if_neg (by decide), p0]
  have eU1 : upd pt 2 (nI z) 1 = nI y := by rw [upd_at, if_neg (by decide), p1]
  have eU2 : upd pt 2 (nI z) 2 = nI z := by rw [upd_at, if_pos rfl]
  have eCl : f_X5_close (s5 S (upd pt 2 (nI z)) B 3) = some (s0 S J' (upd pt 2 (nI z)) 3) := by
    rcases hk with ⟨rfl, rfl⟩ | ⟨rfl, rfl⟩
    · exact cl_98 (by rw [eU0, eU1, eU2]; exact j1)
    · exact cl_116 (by rw [eU0, eU1, eU2]; exact j1)
  exact ⟨s0 S J' (upd pt 2 (nI z)) 3, eR.trans (rd_go e8 hp f7 (eK.trans (congrArg (fun o => o.bind fun r12 => some ((1 : Int32), r12)) eCl))), rfl, hT.2.1, j2⟩
theorem rd_f (e8 : P.2 3 = nI 100) (hn : aN b ≤ 8) (hT : BT S b) {B : Int32} {kd : Nat} (hk : (B = 108 ∧ kd = 3) ∨ (B = 115 ∧ kd = 4)) {p x y d : Nat} (hp : p + 3 < 100) (hx : x < aN b) (hy : y < aN b) (hxy : x ≠ y) (hd : d ≤ 9) (e0 : P.1 3 p = B) (e1 : P.1 3 (p + 1) = nI (65 + x)) (e2 : P.1 3 (p + 2) = nI (65 + y)) (e3 : P.1 3 (p + 3) = nI (48 + d)) : ∃ S', RC P 3 100 (4096 - p) S p = RC P 3 100 (4096 - (p + 4)) S' (p + 4) ∧ BT S' (aSt b x kd y 99 d) := by
  have hl : lets B 4 := hk.elim (fun q => Or.inr (Or.inr (Or.inr (Or.inl ⟨q.1, rfl⟩)))) (fun q => Or.inr (Or.inr (Or.inr (Or.inr (Or.inr (Or.inl ⟨q.1, rfl⟩))))))
  have hkd : kd ≤ 5 := by rcases hk with ⟨-, q⟩ | ⟨-, q⟩ <;> omega
  obtain ⟨pt, p0, p1, eR⟩ := rd_let2 e8 hn hT hl (by omega) hx hy hxy e0 e1 e2 (by decide)
  obtain ⟨f1, f2, -, -, f5, -, f7, -, -, -⟩ := lets_facts hl
  have eP := x5_figT (S := s5 S pt B 2) (c := 102) (v := P.1 3 (p + 3)) (lo := 0) (hi := 9) (Nat.zero_le d) hd (Or.inr ⟨rfl, rfl, rfl⟩) (by rw [e3]; exact figV d)
  have eK := x5_cok (S := S) (pt := pt) (t := 2) f1 f2 (by decide) f5 (by decide) (show d < 10 by omega) eP
  rw [if_pos (show 2 + 1 = zL 4 by decide)] at eK
  obtain ⟨J', j1, j2⟩ := hT.2.2.set hn (x := x) (k := kd) (p := y) (o := 99) (l := d) hx hkd
  rw [kI_lt (by omega), kI_99] at j1
  have eU0 : upd pt 2 (nI d) 0 = nI x := by rw [upd_at, if_neg (by decide), p0]
  have eU1 : upd pt 2 (nI d) 1 = nI y := by rw [upd_at, if_neg (by decide), p1]
  have eU2 : upd pt 2 (nI d) 2 = nI d := by rw [upd_at, if_pos rfl]
  have eCl : f_X5_close (s5 S (upd pt 2 (nI d)) B 3) = some (s0 S J' (upd pt 2 (nI d)) 3) := by
    rcases hk with ⟨rfl, rfl⟩ | ⟨rfl, rfl⟩
    · exact cl_108 (by rw [eU0, eU1, eU2]; exact j1)
    · exact cl_115 (by rw [eU0, eU1, eU2]; exact j1)
  exact ⟨s0 S J' (upd pt 2 (nI d)) 3, eR.trans (rd_go e8 hp f7 (eK.trans (congrArg (fun o => o.bind fun r12 => some ((1 : Int32), r12)) eCl))), rfl, hT.2.1, j2⟩
theorem rd_i (e8 : P.2 3 = nI 100) (hn : aN b ≤ 8) (hT : BT S b) {p x : Nat} (hp : p + 1 < 100) (hx : x < aN b) (e0 : P.1 3 p = 105) (e1 : P.1 3 (p + 1) = nI (65 + x)) : ∃ S', RC P 3 100 (4096 - p) S p = RC P 3 100 (4096 - (p + 2)) S' (p + 2) ∧ BT S' (aSt b x 2 99 99 0) := by
  have hl : lets 105 1 := Or.inr (Or.inl ⟨rfl, rfl⟩)
  obtain ⟨f1, f2, -, f4, f5, f6, f7, -, -, -⟩ := lets_facts hl
  have eP := x5_l0 (S := S) (pt := S.2.1) (B := 105) hT.2.2.1 hn hx (v := P.1 3 (p + 1)) (by rw [e1]; exact letV x)
  have eK := x5_cok (S := S) (pt := S.2.1) (t := 0) f1 f2 f4 f5 f6 (show x < 10 by omega) eP
  rw [if_pos (show 0 + 1 = zL 1 by decide)] at eK
  obtain ⟨J', j1, j2⟩ := hT.2.2.set hn (x := x) (k := 2) (p := 99) (o := 99) (l := 0) hx (by omega)
  rw [kI_99] at j1
  have eU0 : upd S.2.1 0 (nI x) 0 = nI x := by rw [upd_at, if_pos rfl]
  have eCl : f_X5_close (s5 S (upd S.2.1 0 (nI x)) 105 1) = some (s0 S J' (upd S.2.1 0 (nI x)) 1) := cl_105 (by rw [eU0]; exact j1)
  exact ⟨s0 S J' (upd S.2.1 0 (nI x)) 1, (rd_open e8 (by omega) hT.1 (by rw [e0]; exact x5_open hT.2.1 hl)).trans (rd_go e8 hp f7 (eK.trans (congrArg (fun o => o.bind fun r12 => some ((1 : Int32), r12)) eCl))), rfl, hT.2.1, j2⟩
theorem rd_n (e8 : P.2 3 = nI 100) {n : Nat} (h2 : 2 ≤ n) (h8 : n ≤ 8) (i1 : S.2.2.1 = 0) (i2 : S.2.2.2.2 = 0) (ez : P.1 3 0 = 32) (e0 : P.1 3 1 = 110) (e1 : P.1 3 2 = nI (48 + n)) : ∃ S', RC P 3 100 4096 S 0 = RC P 3 100 (4096 - 3) S' 3 ∧ BT S' (aB n) := by
  have eO : f_X5_opens S (P.1 3 1) = some (1, s5 S S.2.1 110 0) := by
    rw [e0]
    unfold f_X5_opens
    rw [if_neg (by decide), show f_X5_formOf 110 = some 0 from by decide, Option.bind_some, show f_J0_isEmpty_aae02 0 = some 0 from rfl, Option.bind_some, if_pos rfl, if_pos rfl]
    unfold f_X5_opens_29
    rw [if_neg (show ¬ (1 : Int32) = S.2.2.2.2 from by rw [i2]; decide)]; rfl
  have f1 : f_X5_formOf 110 = some 0 := by decide
  have it0 : (s5 S S.2.1 110 0).2.2.1 ≠ 0 := by show (110 : Int32) ≠ 0; decide
  have eP := x5_figT (S := s5 S S.2.1 110 0) (c := 99) (v := P.1 3 2) h2 h8 (Or.inl ⟨rfl, rfl, rfl⟩) (by rw [e1]; exact figV n)
  have eK := x5_cok (S := S) (pt := S.2.1) (t := 0) f1 (by decide) (by decide) (by decide) (by decide) (show n < 10 by omega) eP
  rw [if_pos (show 0 + 1 = zL 0 by decide)] at eK
  have eU0 : upd S.2.1 0 (nI n) 0 = nI n := by rw [upd_at, if_pos rfl]
  obtain ⟨J', j1, j2⟩ := x2_build S.1 h8
  have eCl : f_X5_close (s5 S (upd S.2.1 0 (nI n)) 110 1) = some (((s0 S J' (upd S.2.1 0 (nI n)) 1).1, (s0 S J' (upd S.2.1 0 (nI n)) 1).2.1, (s0 S J' (upd S.2.1 0 (nI n)) 1).2.2.1, (s0 S J' (upd S.2.1 0 (nI n)) 1).2.2.2.1, 1)) := cl_110 (by rw [eU0]; exact j1)
  exact ⟨((s0 S J' (upd S.2.1 0 (nI n)) 1).1, (s0 S J' (upd S.2.1 0 (nI n)) 1).2.1, (s0 S J' (upd S.2.1 0 (nI n)) 1).2.2.1, (s0 S J' (upd S.2.1 0 (nI n)) 1).2.2.2.1, 1), (rd_open (p := 0) (S' := S) e8 (by decide) i1 (by rw [ez]; exact if_pos rfl)).trans ((rd_open (p := 1) e8 (by decide) i1 eO).trans (rd_go (p := 2) e8 (by decide) it0 (eK.trans (congrArg (fun o => o.bind fun r12 => some ((1 : Int32), r12)) eCl)))), rfl, rfl, j2⟩
end
/-! a text known up to a sign -/
def PRd (g : Nat → Int32) (p : Nat) (b : AJ) : Prop := ∀ (P : VX8) (S : VX5), P.2 3 = nI 100 → (∀ i, i < p → P.1 3 i = g i) → S.2.2.1 = 0 → S.2.2.2.2 = 0 → ∃ S', RC P 3 100 4096 S 0 = RC P 3 100 (4096 - p) S' p ∧ BT S' b
theorem PRd.read {g : Nat → Int32} {p : Nat} {b : AJ} (h : PRd g p b) (hp : p ≤ 100) {P : VX8} (e8 : P.2 3 = nI 100) (hg : ∀ i, i < p → P.1 3 i = g i) (hb : ∀ i, p ≤ i → i < 100 → P.1 3 i = 32) (S : VX5) : ∃ S', f_X5_read S P 3 = some (-9, S') ∧ JR S'.1 b := by
  obtain ⟨S', e1, e2⟩ := h P ((S.1, S.2.1, 0, 0, 0)) e8 hg rfl rfl
  refine ⟨S', ?_, e2.2.2⟩
  unfold f_X5_read
  rw [show f_X8_sizeOf P 3 = some (nI 100) from (x8_size (r := 3) (by decide)).trans (congrArg some e8), Option.bind_some]
  exact e1.trans (rd_end e8 e2 (100 - p) p (by omega) hb)
/-- the next item -/
theorem PRd.item {g : Nat → Int32} {p q : Nat} {b b' : AJ} (h : PRd g p b) (hpq : p ≤ q) (hI : ∀ (P : VX8) (S : VX5), P.2 3 = nI 100 → (∀ i, i < q → P.1 3 i = g i) → BT S b → ∃ S', RC P 3 100 (4096 - p) S p = RC P 3 100 (4096 - q) S' q ∧ BT S' b') : PRd g q b' := fun P S e8 hg i1 i2 => by
  obtain ⟨S', e1, e2⟩ := h P S e8 (fun i hi => hg i (by omega)) i1 i2
  obtain ⟨S2, f1, f2⟩ := hI P S' e8 hg e2
  exact ⟨S2, e1.trans f1, f2⟩
/-- what is written: signs up to q, blanks behind; items up to p read -/
def WS (S : VX10) (p q : Nat) (b : AJ) : Prop := RRS S ∧ S.2.2.1.2 3 = nI 100 ∧ (∀ i, q ≤ i → i < 100 → S.2.2.1.1 3 i = 32) ∧ p ≤ q ∧ PRd (S.2.2.1.1 3) p b
theorem core_put {S : VX10} {q : Nat} (hR0 : RRS S) (e8 : S.2.2.1.2 3 = nI 100) (hq : q < 100) (hbl : S.2.2.1.1 3 q = 32) {c : Nat} (hc : c < 128) : ∃ S', f_L_put S (nI q) (nI c) = some (nI (q + 1), S') ∧ RRS S' ∧ S'.2.2.1.2 3 = nI 100 ∧ S'.2.2.1.1 3 = upd (S.2.2.1.1 3) q (nI c) := by
  obtain ⟨M, hR⟩ := hR0
  have e : f_X10_put S 3 (nI q) (nI c) = some (1032, (S.1, S.2.1, (zg S.2.2.1.1 3 (upd (S.2.2.1.1 3) q (nI c)), S.2.2.1.2), S.2.2.2.1, S.2.2.2.2.1, S.2.2.2.2.2.1, S.2.2.2.2.2.2.1, S.2.2.2.2.2.2.2.1, S.2.2.2.2.2.2.2.2.1, S.2.2.2.2.2.2.2.2.2)) := by
    unfold f_X10_put
    rw [show f_X10_textRefusal S 3 = some (0, S) from x10_textT (r := 3) (by decide) (Nat.le_refl 100) e8, Option.bind_some, if_pos rfl, show f_X8_isPlace ((0 : Int32), S).2.2.2.1 3 (nI q) = some 1 from x8_placeT (r := 3) (by decide) (Nat.le_refl _) e8 hq, Option.bind_some, if_neg i10, show f_X8_get ((0 : Int32), S).2.2.2.1 3 (nI q) = some (S.2.2.1.1 3 q) from x8_get (r := 3) (by decide) (Nat.le_refl _) e8 hq, Option.bind_some, show f_X8_set ((0 : Int32), S).2.2.2.1 3 (nI q) (nI c).toInt8.toInt32 = _ from x8_set (r := 3) (by decide) (Nat.le_refl _) e8 hq _, hbl, b8 hc, b8 hc]
    rfl
  obtain ⟨r, S2, M2, k1, -, k3⟩ := st_put hR 3 (nI q) (nI c)
  rw [e] at k1
  cases k1
  refine ⟨_, ?_, ⟨M2, k3⟩, e8, by show zg S.2.2.1.1 3 (upd (S.2.2.1.1 3) q (nI c)) 3 = _; rw [zg_at, if_pos rfl]⟩
  unfold f_L_put
  rw [if_neg (nI_pos (by omega)), e, Option.bind_some, if_pos rfl, nI_1]
theorem ws_put {S : VX10} {p q : Nat} {b : AJ} (h : WS S p q b) (hq : q < 100) {c : Nat} (hc : c < 128) : ∃ S', f_L_put S (nI q) (nI c) = some (nI (q + 1), S') ∧ WS S' p (q + 1) b ∧ S'.2.2.1.1 3 = upd (S.2.2.1.1 3) q (nI c) := by
  obtain ⟨hR, e8, hbl, hpq, hP⟩ := h
  obtain ⟨S', k1, k2, k3, k4⟩ := core_put hR e8 hq (hbl q (Nat.le_refl _) hq) hc
  refine ⟨S', k1, ⟨k2, k3, fun i h1 h2 => ?_, by omega, ?_⟩, k4⟩
  · rw [k4, upd_at, if_neg (by omega)]
    exact hbl i (by omega) h2
  · rw [k4]
    intro P S' f8 hg i1 i2
    refine hP P S' f8 (fun i hi => ?_) i1 i2
    have := hg i hi
    rw [upd_at, if_neg (by omega)] at this
    exact this
theorem WS.item {S : VX10} {p q : Nat} {b b' : AJ} (h : WS S p q b) (hI : ∀ (P : VX8) (S' : VX5), P.2 3 = nI 100 → (∀ i, i < q → P.1 3 i = S.2.2.1.1 3 i) → BT S' b → ∃ S2, RC P 3 100 (4096 - p) S' p = RC P 3 100 (4096 - q) S2 q ∧ BT S2 b') : WS S q q b' := by
  obtain ⟨h1, h2, h3, h4, h5⟩ := h
  exact ⟨h1, h2, h3, Nat.le_refl _, h5.item h4 hI⟩
