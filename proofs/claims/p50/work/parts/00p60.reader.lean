/-! the reader: the model's item -/
def K54 (v1 B x : Int32) (r9 : Int32 × VX11) : Option (Int32 × VX11) :=
  if r9.1 = 0 then some (0, r9.2) else
  if B = 107 then (f_X11_readsNew r9.2 x 0 r9.2.2.2.2.2.2.2.2.2.2.2.2.2.2.2.1 (-9) 0).bind fun r17 => some (1, r17) else
  if B = 113 then
    if zIn x 8 = true then if zIn x 8 = true then if zIn r9.2.2.2.2.2.2.2.2.2.2.2.2.2.2.2.1 8 = true then if zIn r9.2.2.2.2.2.2.2.2.2.2.2.2.2.2.2.1 8 = true then
      some (1, (r9.2.1, r9.2.2.1, r9.2.2.2.1, r9.2.2.2.2.1, r9.2.2.2.2.2.1, r9.2.2.2.2.2.2.1, r9.2.2.2.2.2.2.2.1, r9.2.2.2.2.2.2.2.2.1, r9.2.2.2.2.2.2.2.2.2.1, r9.2.2.2.2.2.2.2.2.2.2.1, r9.2.2.2.2.2.2.2.2.2.2.2.1, r9.2.2.2.2.2.2.2.2.2.2.2.2.1, r9.2.2.2.2.2.2.2.2.2.2.2.2.2.1, r9.2.2.2.2.2.2.2.2.2.2.2.2.2.2.1, r9.2.2.2.2.2.2.2.2.2.2.2.2.2.2.2.1, r9.2.2.2.2.2.2.2.2.2.2.2.2.2.2.2.2.1, r9.2.2.2.2.2.2.2.2.2.2.2.2.2.2.2.2.2.1, upd (upd r9.2.2.2.2.2.2.2.2.2.2.2.2.2.2.2.2.2.2.1 x.toNatClampNeg ((r9.2.2.2.2.2.2.2.2.2.2.2.2.2.2.2.2.2.2.1 x.toNatClampNeg) ||| ((1 : Int32) <<< (r9.2.2.2.2.2.2.2.2.2.2.2.2.2.2.2.1 &&& 31)))) r9.2.2.2.2.2.2.2.2.2.2.2.2.2.2.2.1.toNatClampNeg (((upd r9.2.2.2.2.2.2.2.2.2.2.2.2.2.2.2.2.2.2.1 x.toNatClampNeg ((r9.2.2.2.2.2.2.2.2.2.2.2.2.2.2.2.2.2.2.1 x.toNatClampNeg) ||| ((1 : Int32) <<< (r9.2.2.2.2.2.2.2.2.2.2.2.2.2.2.2.1 &&& 31)))) r9.2.2.2.2.2.2.2.2.2.2.2.2.2.2.2.1.toNatClampNeg) ||| ((1 : Int32) <<< (x &&& 31))), r9.2.2.2.2.2.2.2.2.2.2.2.2.2.2.2.2.2.2.2.1, r9.2.2.2.2.2.2.2.2.2.2.2.2.2.2.2.2.2.2.2.2.1, r9.2.2.2.2.2.2.2.2.2.2.2.2.2.2.2.2.2.2.2.2.2.1, r9.2.2.2.2.2.2.2.2.2.2.2.2.2.2.2.2.2.2.2.2.2.2.1, r9.2.2.2.2.2.2.2.2.2.2.2.2.2.2.2.2.2.2.2.2.2.2.2.1, r9.2.2.2.2.2.2.2.2.2.2.2.2.2.2.2.2.2.2.2.2.2.2.2.2.1, r9.2.2.2.2.2.2.2.2.2.2.2.2.2.2.2.2.2.2.2.2.2.2.2.2.2.1, r9.2.2.2.2.2.2.2.2.2.2.2.2.2.2.2.2.2.2.2.2.2.2.2.2.2.2.1, r9.2.2.2.2.2.2.2.2.2.2.2.2.2.2.2.2.2.2.2.2.2.2.2.2.2.2.2.1, r9.2.2.2.2.2.2.2.2.2.2.2.2.2.2.2.2.2.2.2.2.2.2.2.2.2.2.2.2.1, r9.2.2.2.2.2.2.2.2.2.2.2.2.2.2.2.2.2.2.2.2.2.2.2.2.2.2.2.2.2.1, r9.2.2.2.2.2.2.2.2.2.2.2.2.2.2.2.2.2.2.2.2.2.2.2.2.2.2.2.2.2.2.1, r9.2.2.2.2.2.2.2.2.2.2.2.2.2.2.2.2.2.2.2.2.2.2.2.2.2.2.2.2.2.2.2))
    else none else none else none else none
  else if B = 108 then f_X11_readsItem_183 r9.2 v1 B x r9.2.2.2.2.2.2.2.2.2.2.2.2.2.2.2.1
  else if B = 115 then f_X11_readsItem_183 r9.2 v1 B x r9.2.2.2.2.2.2.2.2.2.2.2.2.2.2.2.1
  else (f_X11_letter r9.2 v1 x r9.2.2.2.2.2.2.2.2.2.2.2.2.2.2.2.1).bind fun r11 => if r11.1 = 0 then some (0, r11.2) else f_X11_readsItem_210 r11.2 B x r9.2.2.2.2.2.2.2.2.2.2.2.2.2.2.2.1
theorem m54 (S : VX11) (v1 B : Int32) : f_X11_readsItem_54 S v1 B = (f_X11_letter ((S.1, S.2.1, S.2.2.1, S.2.2.2.1, S.2.2.2.2.1, S.2.2.2.2.2.1, S.2.2.2.2.2.2.1, S.2.2.2.2.2.2.2.1, S.2.2.2.2.2.2.2.2.1, S.2.2.2.2.2.2.2.2.2.1, S.2.2.2.2.2.2.2.2.2.2.1, S.2.2.2.2.2.2.2.2.2.2.2.1, S.2.2.2.2.2.2.2.2.2.2.2.2.1, S.2.2.2.2.2.2.2.2.2.2.2.2.2.1 + (1 : Int32), S.2.2.2.2.2.2.2.2.2.2.2.2.2.2.1, S.2.2.2.2.2.2.2.2.2.2.2.2.2.2.2.1, S.2.2.2.2.2.2.2.2.2.2.2.2.2.2.2.2.1, S.2.2.2.2.2.2.2.2.2.2.2.2.2.2.2.2.2.1, S.2.2.2.2.2.2.2.2.2.2.2.2.2.2.2.2.2.2.1, S.2.2.2.2.2.2.2.2.2.2.2.2.2.2.2.2.2.2.2.1, S.2.2.2.2.2.2.2.2.2.2.2.2.2.2.2.2.2.2.2.2.1, S.2.2.2.2.2.2.2.2.2.2.2.2.2.2.2.2.2.2.2.2.2.1, S.2.2.2.2.2.2.2.2.2.2.2.2.2.2.2.2.2.2.2.2.2.2.1, S.2.2.2.2.2.2.2.2.2.2.2.2.2.2.2.2.2.2.2.2.2.2.2.1, S.2.2.2.2.2.2.2.2.2.2.2.2.2.2.2.2.2.2.2.2.2.2.2.2.1, S.2.2.2.2.2.2.2.2.2.2.2.2.2.2.2.2.2.2.2.2.2.2.2.2.2.1, S.2.2.2.2.2.2.2.2.2.2.2.2.2.2.2.2.2.2.2.2.2.2.2.2.2.2.1, S.2.2.2.2.2.2.2.2.2.2.2.2.2.2.2.2.2.2.2.2.2.2.2.2.2.2.2.1, S.2.2.2.2.2.2.2.2.2.2.2.2.2.2.2.2.2.2.2.2.2.2.2.2.2.2.2.2.1, S.2.2.2.2.2.2.2.2.2.2.2.2.2.2.2.2.2.2.2.2.2.2.2.2.2.2.2.2.2.1, S.2.2.2.2.2.2.2.2.2.2.2.2.2.2.2.2.2.2.2.2.2.2.2.2.2.2.2.2.2.2)) v1 (-1) (-1)).bind fun r7 => if r7.1 = 0 then some (0, r7.2) else if B = 105 then (f_X11_readsNew r7.2 r7.2.2.2.2.2.2.2.2.2.2.2.2.2.2.2.1 2 (-9) (-9) 0).bind fun r19 => some (1, r19) else (f_X11_letter r7.2 v1 r7.2.2.2.2.2.2.2.2.2.2.2.2.2.2.2.1 (-1)).bind fun r9 => K54 v1 B r7.2.2.2.2.2.2.2.2.2.2.2.2.2.2.2.1 r9 := rfl
section
variable {P : VX8} {M : VX11} {r k : Nat}
theorem mP_at (M : VX11) (p : Nat) (num c : Int32) (D Q : Nat → Int32) : ((mP M (nI p) num c D Q).1, (mP M (nI p) num c D Q).2.1, (mP M (nI p) num c D Q).2.2.1, (mP M (nI p) num c D Q).2.2.2.1, (mP M (nI p) num c D Q).2.2.2.2.1, (mP M (nI p) num c D Q).2.2.2.2.2.1, (mP M (nI p) num c D Q).2.2.2.2.2.2.1, (mP M (nI p) num c D Q).2.2.2.2.2.2.2.1, (mP M (nI p) num c D Q).2.2.2.2.2.2.2.2.1, (mP M (nI p) num c D Q).2.2.2.2.2.2.2.2.2.1, (mP M (nI p) num c D Q).2.2.2.2.2.2.2.2.2.2.1, (mP M (nI p) num c D Q).2.2.2.2.2.2.2.2.2.2.2.1, (mP M (nI p) num c D Q).2.2.2.2.2.2.2.2.2.2.2.2.1, (mP M (nI p) num c D Q).2.2.2.2.2.2.2.2.2.2.2.2.2.1 + (1 : Int32), (mP M (nI p) num c D Q).2.2.2.2.2.2.2.2.2.2.2.2.2.2.1, (mP M (nI p) num c D Q).2.2.2.2.2.2.2.2.2.2.2.2.2.2.2.1, (mP M (nI p) num c D Q).2.2.2.2.2.2.2.2.2.2.2.2.2.2.2.2.1, (mP M (nI p) num c D Q).2.2.2.2.2.2.2.2.2.2.2.2.2.2.2.2.2.1, (mP M (nI p) num c D Q).2.2.2.2.2.2.2.2.2.2.2.2.2.2.2.2.2.2.1, (mP M (nI p) num c D Q).2.2.2.2.2.2.2.2.2.2.2.2.2.2.2.2.2.2.2.1, (mP M (nI p) num c D Q).2.2.2.2.2.2.2.2.2.2.2.2.2.2.2.2.2.2.2.2.1, (mP M (nI p) num c D Q).2.2.2.2.2.2.2.2.2.2.2.2.2.2.2.2.2.2.2.2.2.1, (mP M (nI p) num c D Q).2.2.2.2.2.2.2.2.2.2.2.2.2.2.2.2.2.2.2.2.2.2.1, (mP M (nI p) num c D Q).2.2.2.2.2.2.2.2.2.2.2.2.2.2.2.2.2.2.2.2.2.2.2.1, (mP M (nI p) num c D Q).2.2.2.2.2.2.2.2.2.2.2.2.2.2.2.2.2.2.2.2.2.2.2.2.1, (mP M (nI p) num c D Q).2.2.2.2.2.2.2.2.2.2.2.2.2.2.2.2.2.2.2.2.2.2.2.2.2.1, (mP M (nI p) num c D Q).2.2.2.2.2.2.2.2.2.2.2.2.2.2.2.2.2.2.2.2.2.2.2.2.2.2.1, (mP M (nI p) num c D Q).2.2.2.2.2.2.2.2.2.2.2.2.2.2.2.2.2.2.2.2.2.2.2.2.2.2.2.1, (mP M (nI p) num c D Q).2.2.2.2.2.2.2.2.2.2.2.2.2.2.2.2.2.2.2.2.2.2.2.2.2.2.2.2.1, (mP M (nI p) num c D Q).2.2.2.2.2.2.2.2.2.2.2.2.2.2.2.2.2.2.2.2.2.2.2.2.2.2.2.2.2.1, (mP M (nI p) num c D Q).2.2.2.2.2.2.2.2.2.2.2.2.2.2.2.2.2.2.2.2.2.2.2.2.2.2.2.2.2.2) = mP M (nI (p + 1)) num c D Q := by
  rw [show (mP M (nI p) num c D Q).2.2.2.2.2.2.2.2.2.2.2.2.2.1 + (1 : Int32) = nI (p + 1) from nI_1 p]; rfl
theorem m54_bad1 (h : TX P M r k) {p n : Nat} (hp : p + 1 ≤ k) (hn : n ≤ 8) (num : Int32) (D Q : Nat → Int32) (B : Int32) (e : bAt M r k (p + 1) - 65 < 0 ∨ nI n ≤ bAt M r k (p + 1) - 65) : f_X11_readsItem_54 (mP M (nI p) num (nI n) D Q) (nI r) B = some (0, mP M (nI (p + 1)) (bAt M r k (p + 1) - 65) (nI n) D Q) := by
  rw [m54, mP_at, m_letF h hp hn num D Q (-1) (-1) (Or.inl e), Option.bind_some, if_pos rfl]
theorem m54_ok1 (h : TX P M r k) {p n d : Nat} (hp : p + 1 ≤ k) (hn : n ≤ 8) (hd : d < n) (num : Int32) (D Q : Nat → Int32) (B : Int32) (e : bAt M r k (p + 1) - 65 = nI d) : f_X11_readsItem_54 (mP M (nI p) num (nI n) D Q) (nI r) B = if B = 105 then some (1, mP M (nI (p + 2)) (nI d) (nI n) (dn D d 2 (-9) (-9) 0) Q) else (f_X11_letter (mP M (nI (p + 2)) (nI d) (nI n) D Q) (nI r) (nI d) (-1)).bind (K54 (nI r) B (nI d)) := by
  rw [m54, mP_at, m_letT h hp hn hd e num D Q (-1) (-1) (nI_m1 (by omega)) (nI_m1 (by omega)), Option.bind_some, if_neg i10]
  by_cases c : B = 105
  · rw [if_pos c, if_pos c, show f_X11_readsNew ((1 : Int32), mP M (nI (p + 1 + 1)) (nI d) (nI n) D Q).2 ((1 : Int32), mP M (nI (p + 1 + 1)) (nI d) (nI n) D Q).2.2.2.2.2.2.2.2.2.2.2.2.2.2.2.1 2 (-9) (-9) 0 = _ from m_new M (nI (p + 1 + 1)) (nI d) (nI n) D Q (x := d) (by omega) 2 (-9) (-9) 0, Option.bind_some]
  · rw [if_neg c, if_neg c]; rfl
theorem K54_bad (v1 B x : Int32) (N : VX11) : K54 v1 B x (0, N) = some (0, N) := if_pos rfl
theorem K54_107 (v1 : Int32) {x y : Nat} (hx : x < 8) (at' c : Int32) (D Q : Nat → Int32) : K54 v1 107 (nI x) (1, mP M at' (nI y) c D Q) = some (1, mP M at' (nI y) c (dn D x 0 (nI y) (-9) 0) Q) := by
  unfold K54
  rw [if_neg i10, if_pos rfl, show f_X11_readsNew ((1 : Int32), mP M at' (nI y) c D Q).2 (nI x) 0 ((1 : Int32), mP M at' (nI y) c D Q).2.2.2.2.2.2.2.2.2.2.2.2.2.2.2.1 (-9) 0 = _ from m_new M at' (nI y) c D Q hx 0 (nI y) (-9) 0, Option.bind_some]
theorem K54_113 (v1 : Int32) {x y : Nat} (hx : x < 8) (hy : y < 8) (at' c : Int32) (D Q : Nat → Int32) : K54 v1 113 (nI x) (1, mP M at' (nI y) c D Q) = some (1, mP M at' (nI y) c D (upd (upd Q x (Q x ||| nI (2 ^ y))) y ((upd Q x (Q x ||| nI (2 ^ y))) y ||| nI (2 ^ x)))) := by
  unfold K54
  rw [if_neg i10, if_neg (by decide), if_pos rfl, zIn_t hx (by decide), if_pos rfl, if_pos rfl, show ((1 : Int32), mP M at' (nI y) c D Q).2.2.2.2.2.2.2.2.2.2.2.2.2.2.2.1 = nI y from rfl, zIn_t hy (by decide), if_pos rfl, if_pos rfl, nI_clamp (by omega), nI_clamp (by omega), n_one (by omega), n_one (by omega)]
  rfl
theorem K54_two {B : Int32} {kd : Nat} (hB : (B = 98 ∧ kd = 5) ∨ (B = 116 ∧ kd = 1)) (v1 : Int32) {x y : Nat} (at' c : Int32) (D Q : Nat → Int32) : K54 v1 B (nI x) (1, mP M at' (nI y) c D Q) = (f_X11_letter (mP M at' (nI y) c D Q) v1 (nI x) (nI y)).bind fun r11 => if r11.1 = 0 then some (0, r11.2) else (f_X11_readsNew r11.2 (nI x) (nI kd) (nI y) r11.2.2.2.2.2.2.2.2.2.2.2.2.2.2.2.1 0).bind fun r3 => some (1, r3) := by
  rcases hB with ⟨rfl, rfl⟩ | ⟨rfl, rfl⟩
  · unfold K54 f_X11_readsItem_210 f_X11_readsItem_262
    rw [if_neg i10, if_neg (by decide), if_neg (by decide), if_neg (by decide), if_neg (by decide)]
    rfl
  · unfold K54 f_X11_readsItem_210 f_X11_readsItem_262
    rw [if_neg i10, if_neg (by decide), if_neg (by decide), if_neg (by decide), if_neg (by decide)]
    rfl
theorem K54_fig {B : Int32} {kd : Nat} (hB : (B = 108 ∧ kd = 3) ∨ (B = 115 ∧ kd = 4)) (v1 : Int32) {x y : Nat} (at' c : Int32) (D Q : Nat → Int32) : K54 v1 B (nI x) (1, mP M at' (nI y) c D Q) = (f_X11_figure (mP M at' (nI y) c D Q) v1 0 9).bind fun r5 => if r5.1 = 0 then some (0, r5.2) else (f_X11_readsNew r5.2 (nI x) (nI kd) (nI y) (-9) r5.2.2.2.2.2.2.2.2.2.2.2.2.2.2.2.1).bind fun r1 => some (1, r1) := by
  rcases hB with ⟨rfl, rfl⟩ | ⟨rfl, rfl⟩
  · unfold K54 f_X11_readsItem_183 f_X11_readsItem_210 f_X11_readsItem_222 f_X11_readsItem_235
    rw [if_neg i10, if_neg (by decide), if_neg (by decide), if_pos rfl]
    rfl
  · unfold K54 f_X11_readsItem_183 f_X11_readsItem_210 f_X11_readsItem_222 f_X11_readsItem_235
    rw [if_neg i10, if_neg (by decide), if_neg (by decide), if_neg (by decide), if_pos rfl]
    rfl
end
/-! the class' item -/
def lets (B : Int32) (F : Nat) : Prop := (B = 98 ∧ F = 3) ∨ (B = 105 ∧ F = 1) ∨ (B = 107 ∧ F = 2) ∨ (B = 108 ∧ F = 4) ∨ (B = 113 ∧ F = 2) ∨ (B = 115 ∧ F = 4) ∨ (B = 116 ∧ F = 3)
theorem lets_facts {B : Int32} {F : Nat} (h : lets B F) : f_X5_formOf B = some F ∧ F < 5 ∧ 1 ≤ F ∧ 0 < zL F ∧ zL F ≤ 3 ∧ zB F 0 = 120 ∧ B ≠ 0 ∧ B ≠ 110 ∧ B ≠ 32 ∧ (F = 1 ∨ (1 < zL F ∧ zB F 1 = 120)) := by
  rcases h with ⟨rfl, rfl⟩ | ⟨rfl, rfl⟩ | ⟨rfl, rfl⟩ | ⟨rfl, rfl⟩ | ⟨rfl, rfl⟩ | ⟨rfl, rfl⟩ | ⟨rfl, rfl⟩ <;> exact ⟨by decide, by decide, by decide, by decide, by decide, by decide, by decide, by decide, by decide, by decide⟩
theorem x5_open {S : VX5} (hi : S.2.2.2.2 = 1) {B : Int32} {F : Nat} (h : lets B F) : f_X5_opens S B = some (1, s5 S S.2.1 B 0) := by
  obtain ⟨f1, f2, f3, f4, f5, f6, f7, f8, f9, -⟩ := lets_facts h
  unfold f_X5_opens
  rw [if_neg f9, f1, Option.bind_some, show f_J0_isEmpty_aae02 F = some 0 from by
    unfold f_J0_isEmpty_aae02
    rw [if_pos (by omega), if_neg (by omega)], Option.bind_some, if_pos rfl, if_neg f8]
  unfold f_X5_opens_29
  rw [if_neg (show ¬ (0 : Int32) = S.2.2.2.2 from by rw [hi]; decide)]; rfl
theorem x5_openF {S : VX5} (hi : S.2.2.2.2 = 1) {B : Int32} (h : ¬ ∃ F, lets B F) (h32 : B ≠ 32) : f_X5_opens S B = some (0, S) := by
  unfold f_X5_opens
  rw [if_neg h32]
  by_cases c : B = 110
  · subst c
    rw [show f_X5_formOf 110 = some 0 from by decide, Option.bind_some, show f_J0_isEmpty_aae02 0 = some 0 from rfl, Option.bind_some, if_pos rfl, if_pos rfl]
    unfold f_X5_opens_29
    rw [hi, if_pos rfl]
  · have hF : f_X5_formOf B = some 5 := by
      unfold f_X5_formOf
      rw [if_neg (fun e => h ⟨3, Or.inl ⟨e, rfl⟩⟩), if_neg (fun e => h ⟨1, Or.inr (Or.inl ⟨e, rfl⟩)⟩), if_neg (fun e => h ⟨2, Or.inr (Or.inr (Or.inl ⟨e, rfl⟩))⟩), if_neg (fun e => h ⟨4, Or.inr (Or.inr (Or.inr (Or.inl ⟨e, rfl⟩)))⟩), if_neg c, if_neg (fun e => h ⟨2, Or.inr (Or.inr (Or.inr (Or.inr (Or.inl ⟨e, rfl⟩))))⟩), if_neg (fun e => h ⟨4, Or.inr (Or.inr (Or.inr (Or.inr (Or.inr (Or.inl ⟨e, rfl⟩)))))⟩), if_neg (fun e => h ⟨3, Or.inr (Or.inr (Or.inr (Or.inr (Or.inr (Or.inr ⟨e, rfl⟩)))))⟩)]
    rw [hF, Option.bind_some, show f_J0_isEmpty_aae02 5 = some 1 from rfl, Option.bind_some, if_neg i10]
theorem m_itemF {S : VX11} {v1 B : Int32} (e : f_X11_byteAt S v1 S.2.2.2.2.2.2.2.2.2.2.2.2.2.1 = some B) (h : ¬ ∃ F, lets B F) : f_X11_readsItem S v1 = some (0, S) := by
  unfold f_X11_readsItem
  rw [e, Option.bind_some, if_neg (fun e => h ⟨2, Or.inr (Or.inr (Or.inl ⟨e, rfl⟩))⟩), if_neg (fun e => h ⟨3, Or.inr (Or.inr (Or.inr (Or.inr (Or.inr (Or.inr ⟨e, rfl⟩)))))⟩), if_neg (fun e => h ⟨1, Or.inr (Or.inl ⟨e, rfl⟩)⟩), if_neg (fun e => h ⟨4, Or.inr (Or.inr (Or.inr (Or.inl ⟨e, rfl⟩)))⟩), if_neg (fun e => h ⟨4, Or.inr (Or.inr (Or.inr (Or.inr (Or.inr (Or.inl ⟨e, rfl⟩)))))⟩), if_neg (fun e => h ⟨3, Or.inl ⟨e, rfl⟩⟩), if_neg (fun e => h ⟨2, Or.inr (Or.inr (Or.inr (Or.inr (Or.inl ⟨e, rfl⟩))))⟩)]
theorem m_itemT {S : VX11} {v1 B : Int32} {F : Nat} (e : f_X11_byteAt S v1 S.2.2.2.2.2.2.2.2.2.2.2.2.2.1 = some B) (h : lets B F) : f_X11_readsItem S v1 = f_X11_readsItem_54 S v1 B := by
  unfold f_X11_readsItem
  rw [e, Option.bind_some]
  rcases h with ⟨rfl, rfl⟩ | ⟨rfl, rfl⟩ | ⟨rfl, rfl⟩ | ⟨rfl, rfl⟩ | ⟨rfl, rfl⟩ | ⟨rfl, rfl⟩ | ⟨rfl, rfl⟩ <;> rfl
