/-! the reader: an item, on both sides -/
section
variable {P : VX8} {M : VX11} {r k : Nat}
/-- one letter of the class' item -/
theorem x5_l0 {S : VX5} {n : Nat} (hJ : S.1.2.2.2.2.2.1 = nI n) (hn : n ≤ 8) {pt : Nat → Int32} {B : Int32} {d : Nat} {v : Int32} (hd : d < n) (e : v - 65 = nI d) : f_X5_partOf (s5 S pt B 0) 120 v = some (nI d) :=
  x5_let (S := s5 S pt B 0) hJ hn hd e (b := 1) (x5_new0 (S := s5 S pt B 0) rfl (nI d))
theorem x5_l1 {S : VX5} {n : Nat} (hJ : S.1.2.2.2.2.2.1 = nI n) (hn : n ≤ 8) {pt : Nat → Int32} {B : Int32} {d d0 : Nat} {v : Int32} (hd : d < n) (h0 : d0 < n) (ep : pt 0 = nI d0) (e : v - 65 = nI d) : f_X5_partOf (s5 S pt B 1) 120 v = some (if d0 = d then -9 else nI d) := by
  rw [x5_let (S := s5 S pt B 1) hJ hn hd e (x5_new1 (S := s5 S pt B 1) rfl (nI d)), show (s5 S pt B 1).2.1 0 = nI d0 from ep]
  by_cases c : d0 = d
  · rw [if_pos c, if_pos (show nI d0 = nI d by rw [c]), if_pos rfl]
  · rw [if_neg c, if_neg (show ¬ nI d0 = nI d from fun q => c ((nI_eq (by omega) (by omega)).1 q)), if_neg i10]
theorem x5_l2 {S : VX5} {n : Nat} (hJ : S.1.2.2.2.2.2.1 = nI n) (hn : n ≤ 8) {pt : Nat → Int32} {B : Int32} {d d0 d1 : Nat} {v : Int32} (hd : d < n) (h0 : d0 < n) (h1 : d1 < n) (ep : pt 0 = nI d0) (ep1 : pt 1 = nI d1) (e : v - 65 = nI d) : f_X5_partOf (s5 S pt B 2) 120 v = some (if d0 = d ∨ d1 = d then -9 else nI d) := by
  rw [x5_let (S := s5 S pt B 2) hJ hn hd e (x5_new2 (S := s5 S pt B 2) rfl (nI d)), show (s5 S pt B 2).2.1 0 = nI d0 from ep, show (s5 S pt B 2).2.1 1 = nI d1 from ep1]
  by_cases c : d0 = d
  · rw [if_pos (Or.inl c), if_pos (show nI d0 = nI d by rw [c]), if_pos rfl]
  · by_cases c1 : d1 = d
    · rw [if_pos (Or.inr c1), if_neg (show ¬ nI d0 = nI d from fun q => c ((nI_eq (by omega) (by omega)).1 q)), if_pos (show nI d1 = nI d by rw [c1]), if_pos rfl]
    · rw [if_neg (show ¬ (d0 = d ∨ d1 = d) from fun q => q.elim c c1), if_neg (show ¬ nI d0 = nI d from fun q => c ((nI_eq (by omega) (by omega)).1 q)), if_neg (show ¬ nI d1 = nI d from fun q => c1 ((nI_eq (by omega) (by omega)).1 q)), if_neg i10]
/-- the third sign -/
theorem item3 (h : TX P M r k) {p f : Nat} (hp : p ≤ k) (hf : k - p < f) {S : VX5} {a : AJ} {D Q : Nat → Int32} (hB : Bd S a D Q) {B : Int32} {F kd : Nat} (hk : (B = 98 ∧ F = 3 ∧ kd = 5) ∨ (B = 116 ∧ F = 3 ∧ kd = 1)) {x y : Nat} (hx : x < aN a) (hy : y < aN a) (hxy : x ≠ y) {pt : Nat → Int32} (p0 : pt 0 = nI x) (p1 : pt 1 = nI y) (num : Int32) (hnum : num = nI y) :
    Out P M r k f (s5 S pt B 2) p (K54 (nI r) B (nI x) (1, mP M (nI p) num (nI (aN a)) D Q)) := by
  subst hnum
  obtain ⟨i1, i2, hV, h2, hJ, hR⟩ := hB
  have hn := hV.2.1
  have hk' : (B = 98 ∧ kd = 5) ∨ (B = 116 ∧ kd = 1) := hk.imp (fun q => ⟨q.1, q.2.2⟩) (fun q => ⟨q.1, q.2.2⟩)
  have hl : lets B F := hk.elim (fun q => Or.inl ⟨q.1, q.2.1⟩) (fun q => Or.inr (Or.inr (Or.inr (Or.inr (Or.inr (Or.inr ⟨q.1, q.2.1⟩))))))
  obtain ⟨f1, f2, -, -, f5, -, f7, -⟩ := lets_facts hl
  have hF3 : F = 3 := by rcases hk with ⟨-, b, -⟩ | ⟨-, b, -⟩ <;> exact b
  subst hF3
  have hkd : kd ≤ 5 ∧ kd ≠ 2 ∧ (kd = 1 ∨ kd = 5) := by rcases hk with ⟨-, -, b⟩ | ⟨-, -, b⟩ <;> omega
  rw [K54_two hk']
  have bad : (bAt M r k p - 65 < 0 ∨ nI (aN a) ≤ bAt M r k p - 65) ∨ (∃ d, d < aN a ∧ bAt M r k p - 65 = nI d ∧ (nI d = nI x ∨ nI d = nI y)) → (p < k → f_X5_partOf (s5 S pt B 2) 120 (bAt M r k p) = some (-9)) → Out P M r k f (s5 S pt B 2) p ((f_X11_letter (mP M (nI p) (nI y) (nI (aN a)) D Q) (nI r) (nI x) (nI y)).bind fun r11 => if r11.1 = 0 then some (0, r11.2) else (f_X11_readsNew r11.2 (nI x) (nI kd) (nI y) r11.2.2.2.2.2.2.2.2.2.2.2.2.2.2.2.1 0).bind fun r3 => some (1, r3)) := fun e e2 => by
    refine Or.inl ⟨p, bAt M r k p - 65, nI (aN a), D, Q, s5 S pt B 2, hp, rc_bad h hp hf f7 fun hpk => x5_cbad f1 f2 (by decide) f5 (by decide) (e2 hpk), ?_⟩
    rw [m_letF h hp hn (nI y) D Q _ _ e, Option.bind_some, if_pos rfl]
  rcases letC (bAt M r k p) hn with e | ⟨d, hd, e⟩
  · exact bad (Or.inl e) fun _ => x5_letF (S := s5 S pt B 2) hJ.1 e
  · have hpk := bAt_let (by omega) e
    have eP := x5_l2 (S := S) (B := B) hJ.1 hn hd hx hy p0 p1 e
    by_cases c : x = d ∨ y = d
    · rw [if_pos c] at eP
      exact bad (Or.inr ⟨d, hd, e, c.imp (fun q => by rw [q]) (fun q => by rw [q])⟩) fun _ => eP
    · rw [if_neg c] at eP
      have cx : x ≠ d := fun q => c (Or.inl q)
      have cy : y ≠ d := fun q => c (Or.inr q)
      obtain ⟨J', j1, j2⟩ := hJ.set hn (x := x) (k := kd) (p := y) (o := d) (l := 0) hx hkd.1
      rw [kI_lt (by omega), kI_lt (by omega)] at j1
      have eU0 : upd pt 2 (nI d) 0 = nI x := by rw [upd_at, if_neg (by decide), p0]
      have eU1 : upd pt 2 (nI d) 1 = nI y := by rw [upd_at, if_neg (by decide), p1]
      have eU2 : upd pt 2 (nI d) 2 = nI d := by rw [upd_at, if_pos rfl]
      have eCl : f_X5_close (s5 S (upd pt 2 (nI d)) B 3) = some (s0 S J' (upd pt 2 (nI d)) 3) := by
        rcases hk with ⟨rfl, -, rfl⟩ | ⟨rfl, -, rfl⟩
        · exact cl_98 (by rw [eU0, eU1, eU2]; exact j1)
        · exact cl_116 (by rw [eU0, eU1, eU2]; exact j1)
      have eK := x5_cok (S := s5 S pt B 2) (pt := pt) (t := 2) f1 f2 (by decide) f5 (by decide) (show d < 10 by omega) eP
      refine Or.inr ⟨p + 1, nI d, s0 S J' (upd pt 2 (nI d)) 3, f - 1, aSt a x kd y d 0, dn D x (nI kd) (kI y) (kI d) (nI 0), Q, by omega, by omega, by omega, ⟨rfl, i2, hV.set hkd.1 (fun q => absurd q hkd.2.1) (fun _ => ⟨hy, fun q => hxy q.symm, fun q => cy q.symm⟩) (fun _ => ⟨hd, fun q => cx q.symm⟩) (fun q => absurd hkd.2.2 q) (by omega), h2, j2, hR.set x kd y d 0⟩, rc_go h hpk hf f7 ?_, ?_⟩
      · refine eK.trans ?_
        rw [if_pos (by decide)]
        exact (congrArg (fun o => o.bind fun r12 => some ((1 : Int32), r12)) eCl)
      · rw [m_letT h hp hn hd e (nI y) D Q _ _ (fun q => cx ((nI_eq (by omega) (by omega)).1 q).symm) (fun q => cy ((nI_eq (by omega) (by omega)).1 q).symm), Option.bind_some, if_neg i10, show f_X11_readsNew ((1 : Int32), mP M (nI (p + 1)) (nI d) (nI (aN a)) D Q).2 (nI x) (nI kd) (nI y) ((1 : Int32), mP M (nI (p + 1)) (nI d) (nI (aN a)) D Q).2.2.2.2.2.2.2.2.2.2.2.2.2.2.2.1 0 = _ from m_new M (nI (p + 1)) (nI d) (nI (aN a)) D Q (show x < 8 by omega) (nI kd) (nI y) (nI d) 0, Option.bind_some, kI_lt (show y < 8 by omega), kI_lt (show d < 8 by omega)]
        rfl
theorem item4 (h : TX P M r k) {p f : Nat} (hp : p ≤ k) (hf : k - p < f) {S : VX5} {a : AJ} {D Q : Nat → Int32} (hB : Bd S a D Q) {B : Int32} {F kd : Nat} (hk : (B = 108 ∧ F = 4 ∧ kd = 3) ∨ (B = 115 ∧ F = 4 ∧ kd = 4)) {x y : Nat} (hx : x < aN a) (hy : y < aN a) (hxy : x ≠ y) {pt : Nat → Int32} (p0 : pt 0 = nI x) (p1 : pt 1 = nI y) (num : Int32) (hnum : num = nI y) :
    Out P M r k f (s5 S pt B 2) p (K54 (nI r) B (nI x) (1, mP M (nI p) num (nI (aN a)) D Q)) := by
  subst hnum
  obtain ⟨i1, i2, hV, h2, hJ, hR⟩ := hB
  have hn := hV.2.1
  have hk' : (B = 108 ∧ kd = 3) ∨ (B = 115 ∧ kd = 4) := hk.imp (fun q => ⟨q.1, q.2.2⟩) (fun q => ⟨q.1, q.2.2⟩)
  have hl : lets B F := hk.elim (fun q => Or.inr (Or.inr (Or.inr (Or.inl ⟨q.1, q.2.1⟩)))) (fun q => Or.inr (Or.inr (Or.inr (Or.inr (Or.inr (Or.inl ⟨q.1, q.2.1⟩))))))
  obtain ⟨f1, f2, -, -, f5, -, f7, -⟩ := lets_facts hl
  have hF3 : F = 4 := by rcases hk with ⟨-, b, -⟩ | ⟨-, b, -⟩ <;> exact b
  subst hF3
  have hkd : kd ≤ 5 ∧ kd ≠ 2 ∧ ¬ (kd = 1 ∨ kd = 5) := by rcases hk with ⟨-, -, b⟩ | ⟨-, -, b⟩ <;> omega
  rw [K54_fig hk']
  rcases figC (bAt M r k p) (lo := 0) (hi := 9) (by decide) (by decide) with e | ⟨d, -, hd, e⟩
  · refine Or.inl ⟨p, bAt M r k p - 48, nI (aN a), D, Q, s5 S pt B 2, hp, rc_bad h hp hf f7 fun hpk => x5_cbad (c := 102) f1 f2 (by decide) f5 (by decide) (x5_figF (lo := 0) (hi := 9) (Or.inr ⟨rfl, rfl, rfl⟩) e), ?_⟩
    rw [show f_X11_figure (mP M (nI p) (nI y) (nI (aN a)) D Q) (nI r) 0 9 = _ from m_figF (lo := 0) (hi := 9) h hp (by decide) e (nI y) (nI (aN a)) D Q, Option.bind_some, if_pos rfl]
  · have hpk := bAt_fig (by omega) e
    have eP := x5_figT (S := s5 S pt B 2) (lo := 0) (hi := 9) (Nat.zero_le d) hd (Or.inr ⟨rfl, rfl, rfl⟩) e
    obtain ⟨J', j1, j2⟩ := hJ.set hn (x := x) (k := kd) (p := y) (o := 99) (l := d) hx hkd.1
    rw [kI_lt (by omega), kI_99] at j1
    have eU0 : upd pt 2 (nI d) 0 = nI x := by rw [upd_at, if_neg (by decide), p0]
    have eU1 : upd pt 2 (nI d) 1 = nI y := by rw [upd_at, if_neg (by decide), p1]
    have eU2 : upd pt 2 (nI d) 2 = nI d := by rw [upd_at, if_pos rfl]
    have eCl : f_X5_close (s5 S (upd pt 2 (nI d)) B 3) = some (s0 S J' (upd pt 2 (nI d)) 3) := by
      rcases hk with ⟨rfl, -, rfl⟩ | ⟨rfl, -, rfl⟩
      · exact cl_108 (by rw [eU0, eU1, eU2]; exact j1)
      · exact cl_115 (by rw [eU0, eU1, eU2]; exact j1)
    have eK := x5_cok (S := s5 S pt B 2) (pt := pt) (t := 2) f1 f2 (by decide) f5 (by decide) (show d < 10 by omega) eP
    refine Or.inr ⟨p + 1, nI d, s0 S J' (upd pt 2 (nI d)) 3, f - 1, aSt a x kd y 99 d, dn D x (nI kd) (kI y) (kI 99) (nI d), Q, by omega, by omega, by omega, ⟨rfl, i2, hV.set hkd.1 (fun q => absurd q hkd.2.1) (fun _ => ⟨hy, fun q => hxy q.symm, by omega⟩) (fun q => absurd q hkd.2.2) (fun _ => rfl) hd, h2, j2, hR.set x kd y 99 d⟩, rc_go h hpk hf f7 ?_, ?_⟩
    · refine eK.trans ?_
      rw [if_pos (by decide)]
      exact (congrArg (fun o => o.bind fun r12 => some ((1 : Int32), r12)) eCl)
    · rw [show f_X11_figure (mP M (nI p) (nI y) (nI (aN a)) D Q) (nI r) 0 9 = _ from m_figT (lo := 0) (hi := 9) h hp (Nat.zero_le d) hd (by decide) e (nI y) (nI (aN a)) D Q, Option.bind_some, if_neg i10, show f_X11_readsNew ((1 : Int32), mP M (nI (p + 1)) (nI d) (nI (aN a)) D Q).2 (nI x) (nI kd) (nI y) (-9) ((1 : Int32), mP M (nI (p + 1)) (nI d) (nI (aN a)) D Q).2.2.2.2.2.2.2.2.2.2.2.2.2.2.2.1 = _ from m_new M (nI (p + 1)) (nI d) (nI (aN a)) D Q (show x < 8 by omega) (nI kd) (nI y) (-9) (nI d), Option.bind_some, kI_lt (show y < 8 by omega), kI_99]
      rfl
end
