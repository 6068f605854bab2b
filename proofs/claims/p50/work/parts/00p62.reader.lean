/-! the reader: an item from its first sign -/
section
variable {P : VX8} {M : VX11} {r k : Nat}
/-- the second letter -/
theorem item2 (h : TX P M r k) {p f : Nat} (hp : p ≤ k) (hf : k - p < f) {S : VX5} {a : AJ} {D Q : Nat → Int32} (hB : Bd S a D Q) {B : Int32} {F : Nat} (hl : lets B F) (hF : F ≠ 1) {x : Nat} (hx : x < aN a) {pt : Nat → Int32} (p0 : pt 0 = nI x) :
    Out P M r k f (s5 S pt B 1) p ((f_X11_letter (mP M (nI p) (nI x) (nI (aN a)) D Q) (nI r) (nI x) (-1)).bind (K54 (nI r) B (nI x))) := by
  obtain ⟨i1, i2, hV, h2, hJ, hR⟩ := id hB
  have hn := hV.2.1
  obtain ⟨f1, f2, -, -, f5, -, f7, -, -, f10⟩ := lets_facts hl
  have f10 := f10.resolve_left hF
  have bad : (bAt M r k p - 65 < 0 ∨ nI (aN a) ≤ bAt M r k p - 65) ∨ (∃ d, d < aN a ∧ bAt M r k p - 65 = nI d ∧ (nI d = nI x ∨ nI d = -1)) → (p < k → f_X5_partOf (s5 S pt B 1) 120 (bAt M r k p) = some (-9)) → Out P M r k f (s5 S pt B 1) p ((f_X11_letter (mP M (nI p) (nI x) (nI (aN a)) D Q) (nI r) (nI x) (-1)).bind (K54 (nI r) B (nI x))) := fun e e2 => by
    refine Or.inl ⟨p, bAt M r k p - 65, nI (aN a), D, Q, s5 S pt B 1, hp, rc_bad h hp hf f7 fun hpk => x5_cbad f1 f2 f10.1 f5 f10.2 (e2 hpk), ?_⟩
    rw [m_letF h hp hn (nI x) D Q _ _ e, Option.bind_some, K54_bad]
  rcases letC (bAt M r k p) hn with e | ⟨d, hd, e⟩
  · exact bad (Or.inl e) fun _ => x5_letF (S := s5 S pt B 1) hJ.1 e
  · have hpk := bAt_let (by omega) e
    have eP := x5_l1 (S := S) (B := B) hJ.1 hn hd hx p0 e
    by_cases c : x = d
    · rw [if_pos c] at eP
      exact bad (Or.inr ⟨d, hd, e, Or.inl (by rw [c])⟩) fun _ => eP
    · rw [if_neg c] at eP
      have eU0 : upd pt 1 (nI d) 0 = nI x := by rw [upd_at, if_neg (by decide), p0]
      have eU1 : upd pt 1 (nI d) 1 = nI d := by rw [upd_at, if_pos rfl]
      have eK := x5_cok (S := s5 S pt B 1) (pt := pt) (t := 1) f1 f2 f10.1 f5 f10.2 (show d < 10 by omega) eP
      rw [m_letT h hp hn hd e (nI x) D Q _ _ (fun q => c ((nI_eq (by omega) (by omega)).1 q).symm) (nI_m1 (by omega)), Option.bind_some]
      by_cases two : zL F = 2
      · rw [if_pos two.symm] at eK
        have hB2 : (B = 107 ∧ F = 2) ∨ (B = 113 ∧ F = 2) := by
          rcases hl with ⟨rfl, rfl⟩ | ⟨rfl, rfl⟩ | h | ⟨rfl, rfl⟩ | h | ⟨rfl, rfl⟩ | ⟨rfl, rfl⟩
          · exact absurd two (by decide)
          · exact absurd rfl hF
          · exact Or.inl h
          · exact absurd two (by decide)
          · exact Or.inr h
          · exact absurd two (by decide)
          · exact absurd two (by decide)
        rcases hB2 with ⟨rfl, -⟩ | ⟨rfl, -⟩
        · obtain ⟨J', j1, j2⟩ := hJ.set hn (x := x) (k := 0) (p := d) (o := 99) (l := 0) hx (by omega)
          rw [kI_lt (by omega), kI_99] at j1
          have eCl : f_X5_close (s5 S (upd pt 1 (nI d)) 107 2) = some (s0 S J' (upd pt 1 (nI d)) 2) := cl_107 (by rw [eU0, eU1]; exact j1)
          refine Or.inr ⟨p + 1, nI d, s0 S J' (upd pt 1 (nI d)) 2, f - 1, aSt a x 0 d 99 0, dn D x (nI 0) (kI d) (kI 99) (nI 0), Q, by omega, by omega, by omega, ⟨rfl, i2, hV.set (by omega) (fun q => absurd q (by decide)) (fun _ => ⟨hd, fun q => c q.symm, by omega⟩) (fun q => absurd q (by decide)) (fun _ => rfl) (by omega), h2, j2, hR.set x 0 d 99 0⟩, rc_go h hpk hf f7 ?_, ?_⟩
          · exact eK.trans (congrArg (fun o => o.bind fun r12 => some ((1 : Int32), r12)) eCl)
          · rw [K54_107 (nI r) (show x < 8 by omega), kI_lt (show d < 8 by omega), kI_99]
            rfl
        · obtain ⟨J', j1, j2⟩ := x2_setQ hJ hn hx hd (fun q => c q.symm)
          have eCl : f_X5_close (s5 S (upd pt 1 (nI d)) 113 2) = some (s0 S J' (upd pt 1 (nI d)) 2) := cl_113 (by rw [eU0, eU1]; exact j1)
          refine Or.inr ⟨p + 1, nI d, s0 S J' (upd pt 1 (nI d)) 2, f - 1, aQu a x d true, D, _, by omega, by omega, by omega, ⟨rfl, i2, hV.quarrel hx hd (fun q => c q.symm), h2, j2, hR.qu hx hd (fun q => c q.symm)⟩, rc_go h hpk hf f7 ?_, ?_⟩
          · exact eK.trans (congrArg (fun o => o.bind fun r12 => some ((1 : Int32), r12)) eCl)
          · rw [K54_113 (nI r) (show x < 8 by omega) (show d < 8 by omega)]; rfl
      · rw [if_neg (show ¬ 1 + 1 = zL F from fun q => two q.symm)] at eK
        have eR := rc_go h hpk hf f7 (S := s5 S pt B 1) eK
        have big : Out P M r k (f - 1) (s5 S (upd pt 1 (nI d)) B 2) (p + 1) (K54 (nI r) B (nI x) (1, mP M (nI (p + 1)) (nI d) (nI (aN a)) D Q)) := by
          rcases hl with ⟨rfl, rfl⟩ | ⟨rfl, rfl⟩ | ⟨rfl, rfl⟩ | ⟨rfl, rfl⟩ | ⟨rfl, rfl⟩ | ⟨rfl, rfl⟩ | ⟨rfl, rfl⟩
          · exact item3 h (by omega) (by omega) hB (Or.inl ⟨rfl, rfl, rfl⟩) hx hd c eU0 eU1 (nI d) rfl
          · exact absurd rfl hF
          · exact absurd (show zL 2 = 2 by decide) two
          · exact item4 h (by omega) (by omega) hB (Or.inl ⟨rfl, rfl, rfl⟩) hx hd c eU0 eU1 (nI d) rfl
          · exact absurd (show zL 2 = 2 by decide) two
          · exact item4 h (by omega) (by omega) hB (Or.inr ⟨rfl, rfl, rfl⟩) hx hd c eU0 eU1 (nI d) rfl
          · exact item3 h (by omega) (by omega) hB (Or.inr ⟨rfl, rfl, rfl⟩) hx hd c eU0 eU1 (nI d) rfl
        rcases big with ⟨p', num, cells, D', Q', S', b1, b2, b3⟩ | ⟨p', num, S', f', a', D', Q', b1, b2, b3, b4, b5, b6⟩
        · exact Or.inl ⟨p', num, cells, D', Q', S', b1, eR.trans b2, b3⟩
        · exact Or.inr ⟨p', num, S', f', a', D', Q', by omega, b2, b3, b4, eR.trans b5, b6⟩
theorem item_run (h : TX P M r k) {p f : Nat} (hp : p < k) (hf : k - p < f) {S : VX5} {a : AJ} {D Q : Nat → Int32} (hB : Bd S a D Q) (h32 : bAt M r k p ≠ 32) (num : Int32) :
    Out P M r k f S p (f_X11_readsItem (mP M (nI p) num (nI (aN a)) D Q) (nI r)) := by
  obtain ⟨i1, i2, hV, h2, hJ, hR⟩ := id hB
  have hn := hV.2.1
  have eB : f_X11_byteAt (mP M (nI p) num (nI (aN a)) D Q) (nI r) (mP M (nI p) num (nI (aN a)) D Q).2.2.2.2.2.2.2.2.2.2.2.2.2.1 = some (bAt M r k p) := m_bAt h (by omega) num _ D Q
  by_cases hl : ∃ F, lets (bAt M r k p) F
  case neg =>
    exact Or.inl ⟨p, num, nI (aN a), D, Q, S, by omega, rc_obad h hp hf i1 (x5_openF i2 hl h32), m_itemF eB hl⟩
  obtain ⟨F, hl⟩ := hl
  rw [m_itemT eB hl]
  obtain ⟨f1, f2, -, f4, f5, f6, f7, -, -, f10⟩ := lets_facts hl
  have eR := rc_open h hp hf i1 (x5_open i2 hl)
  have hf1 : k - (p + 1) < f - 1 := by omega
  rcases letC (bAt M r k (p + 1)) hn with e | ⟨d, hd, e⟩
  · refine Or.inl ⟨p + 1, _, nI (aN a), D, Q, _, by omega, eR.trans (rc_bad h (by omega) hf1 f7 fun hpk => x5_cbad f1 f2 f4 f5 f6 (x5_letF (S := s5 S S.2.1 (bAt M r k p) 0) hJ.1 e)), m54_bad1 h (by omega) hn num D Q _ e⟩
  · have hpk := bAt_let (by omega) e
    have eP := x5_l0 (S := S) (pt := S.2.1) (B := bAt M r k p) hJ.1 hn hd e
    have eK := x5_cok (S := S) (pt := S.2.1) (t := 0) f1 f2 f4 f5 f6 (show d < 10 by omega) eP
    have eU0 : upd S.2.1 0 (nI d) 0 = nI d := by rw [upd_at, if_pos rfl]
    rw [m54_ok1 h (by omega) hn hd num D Q _ e]
    by_cases c : bAt M r k p = 105
    · have hF1 : F = 1 := by
        rw [c] at hl
        rcases hl with ⟨e, -⟩ | ⟨-, e⟩ | ⟨e, -⟩ | ⟨e, -⟩ | ⟨e, -⟩ | ⟨e, -⟩ | ⟨e, -⟩
        · exact absurd e (by decide)
        · exact e
        · exact absurd e (by decide)
        · exact absurd e (by decide)
        · exact absurd e (by decide)
        · exact absurd e (by decide)
        · exact absurd e (by decide)
      subst hF1
      rw [if_pos c]
      rw [if_pos (show 0 + 1 = zL 1 by decide)] at eK
      obtain ⟨J', j1, j2⟩ := hJ.set hn (x := d) (k := 2) (p := 99) (o := 99) (l := 0) hd (by omega)
      rw [kI_99] at j1
      have eCl : f_X5_close (s5 S (upd S.2.1 0 (nI d)) (bAt M r k p) 1) = some (s0 S J' (upd S.2.1 0 (nI d)) 1) := by
        rw [c]
        exact cl_105 (by rw [eU0]; exact j1)
      refine Or.inr ⟨p + 2, nI d, s0 S J' (upd S.2.1 0 (nI d)) 1, f - 1 - 1, aSt a d 2 99 99 0, dn D d (nI 2) (kI 99) (kI 99) (nI 0), Q, by omega, by omega, by omega, ⟨rfl, i2, hV.set (by omega) (fun _ => rfl) (fun q => absurd rfl q) (fun q => absurd q (by decide)) (fun _ => rfl) (by omega), h2, j2, hR.set d 2 99 99 0⟩, eR.trans (rc_go h hpk hf1 f7 ?_), ?_⟩
      · exact eK.trans (congrArg (fun o => o.bind fun r12 => some ((1 : Int32), r12)) eCl)
      · rw [kI_99]; rfl
    · have hF1 : F ≠ 1 := fun q => by
        subst q
        rcases hl with ⟨-, e⟩ | ⟨e, -⟩ | ⟨-, e⟩ | ⟨-, e⟩ | ⟨-, e⟩ | ⟨-, e⟩ | ⟨-, e⟩
        · omega
        · exact c e
        · omega
        · omega
        · omega
        · omega
        · omega
      have f10 := f10.resolve_left hF1
      rw [if_neg c]
      rw [if_neg (show ¬ 0 + 1 = zL F by omega)] at eK
      have eR2 := eR.trans (rc_go h hpk hf1 f7 (S := s5 S S.2.1 (bAt M r k p) 0) eK)
      rcases item2 h (p := p + 2) (f := f - 1 - 1) (by omega) (by omega) hB hl hF1 hd eU0 with ⟨p', num, cells, D', Q', S', b1, b2, b3⟩ | ⟨p', num, S', f', a', D', Q', b1, b2, b3, b4, b5, b6⟩
      · exact Or.inl ⟨p', num, cells, D', Q', S', b1, eR2.trans b2, b3⟩
      · exact Or.inr ⟨p', num, S', f', a', D', Q', by omega, b2, b3, b4, eR2.trans b5, b6⟩
end
