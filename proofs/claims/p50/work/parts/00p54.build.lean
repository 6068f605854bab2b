/-! a jail built, a door set, a jail taken over -/
theorem n_stb {s x : Nat} {b : Bool} (hx : x < 31) : (nI s &&& (((1 : Int32) <<< (nI x &&& 31)) ^^^ ((-1) : Int32))) ||| nI (if b = true then 2 ^ x else 0) = nI (stb s x b) := by
  rw [n_one hx, n_sd, n_or]; rfl
def dset (J : VX2) (x k : Nat) (p o l : Int32) (s b : Nat) : VX2 := (upd J.1 x (nI k), upd J.2.1 x p, upd J.2.2.1 x o, upd J.2.2.2.1 x l, J.2.2.2.2.1, J.2.2.2.2.2.1, nI s, nI b)
theorem x2_setDoor {J : VX2} {n x k s b : Nat} (h1 : J.2.2.2.2.2.1 = nI n) (hn : n ≤ 8) (hx : x < n) (hk : k ≤ 5) (hs : J.2.2.2.2.2.2.1 = nI s) (hb : J.2.2.2.2.2.2.2 = nI b) (p o l : Int32) :
    f_X2_setDoor J (nI x) (nI k) p o l = some (dset J x k p o l (stb s x (decide (k = 4))) (stb b x (decide (k = 5)))) := by
  have t1 : (1 : Int32) <<< (nI x &&& 31) = nI (if true = true then 2 ^ x else 0) := by rw [n_one (by omega), if_tt]
  have t0 : (0 : Int32) = nI (if false = true then 2 ^ x else 0) := rfl
  have eS : ∀ B : Bool, (J.2.2.2.2.2.2.1 &&& (((1 : Int32) <<< (nI x &&& 31)) ^^^ ((-1) : Int32))) ||| nI (if B = true then 2 ^ x else 0) = nI (stb s x B) := fun B => by rw [hs]; exact n_stb (by omega)
  have eB : ∀ B : Bool, (J.2.2.2.2.2.2.2 &&& (((1 : Int32) <<< (nI x &&& 31)) ^^^ ((-1) : Int32))) ||| nI (if B = true then 2 ^ x else 0) = nI (stb b x B) := fun B => by rw [hb]; exact n_stb (by omega)
  unfold f_X2_setDoor f_X2_setDoor_65 dset
  rw [x2_in h1 hn hx, Option.bind_some, if_neg i10, zIn_t (show x < 8 by omega) (by decide), nI_clamp (by omega)]
  simp only [if_T]
  by_cases c4 : k = 4
  · subst c4
    rw [if_pos (show nI 4 = 4 from rfl), if_neg (show ¬ nI 4 = 5 by decide)]
    show some ((upd J.1 x (nI 4), upd J.2.1 x p, upd J.2.2.1 x o, upd J.2.2.2.1 x l, J.2.2.2.2.1, J.2.2.2.2.2.1, ((J.2.2.2.2.2.2.1 &&& (((1 : Int32) <<< (nI x &&& 31)) ^^^ ((-1) : Int32))) ||| ((1 : Int32) <<< (nI x &&& 31))), ((J.2.2.2.2.2.2.2 &&& (((1 : Int32) <<< (nI x &&& 31)) ^^^ ((-1) : Int32))) ||| nI (if false = true then 2 ^ x else 0)))) = _
    rw [eB false, show (J.2.2.2.2.2.2.1 &&& (((1 : Int32) <<< (nI x &&& 31)) ^^^ ((-1) : Int32))) ||| ((1 : Int32) <<< (nI x &&& 31)) = nI (stb s x true) from (congrArg (fun z => (J.2.2.2.2.2.2.1 &&& (((1 : Int32) <<< (nI x &&& 31)) ^^^ ((-1) : Int32))) ||| z) t1).trans (eS true)]
    rfl
  · have c4' : ¬ nI k = 4 := fun e => c4 ((nI_eq (by omega) (by decide)).1 (show nI k = nI 4 from e))
    by_cases c5 : k = 5
    · subst c5
      rw [if_neg (show ¬ nI 5 = 4 by decide), if_pos (show nI 5 = 5 from rfl)]
      show some ((upd J.1 x (nI 5), upd J.2.1 x p, upd J.2.2.1 x o, upd J.2.2.2.1 x l, J.2.2.2.2.1, J.2.2.2.2.2.1, ((J.2.2.2.2.2.2.1 &&& (((1 : Int32) <<< (nI x &&& 31)) ^^^ ((-1) : Int32))) ||| nI (if false = true then 2 ^ x else 0)), ((J.2.2.2.2.2.2.2 &&& (((1 : Int32) <<< (nI x &&& 31)) ^^^ ((-1) : Int32))) ||| ((1 : Int32) <<< (nI x &&& 31))))) = _
      rw [eS false, show (J.2.2.2.2.2.2.2 &&& (((1 : Int32) <<< (nI x &&& 31)) ^^^ ((-1) : Int32))) ||| ((1 : Int32) <<< (nI x &&& 31)) = nI (stb b x true) from (congrArg (fun z => (J.2.2.2.2.2.2.2 &&& (((1 : Int32) <<< (nI x &&& 31)) ^^^ ((-1) : Int32))) ||| z) t1).trans (eB true)]
      rfl
    · have c5' : ¬ nI k = 5 := fun e => c5 ((nI_eq (by omega) (by decide)).1 (show nI k = nI 5 from e))
      rw [if_neg c4', if_neg c5', decide_eq_false c4, decide_eq_false c5]
      show some ((upd J.1 x (nI k), upd J.2.1 x p, upd J.2.2.1 x o, upd J.2.2.2.1 x l, J.2.2.2.2.1, J.2.2.2.2.2.1, ((J.2.2.2.2.2.2.1 &&& (((1 : Int32) <<< (nI x &&& 31)) ^^^ ((-1) : Int32))) ||| nI (if false = true then 2 ^ x else 0)), ((J.2.2.2.2.2.2.2 &&& (((1 : Int32) <<< (nI x &&& 31)) ^^^ ((-1) : Int32))) ||| nI (if false = true then 2 ^ x else 0)))) = _
      rw [eS false, eB false]
/-- what it holds at x -/
def DJ (J : VX2) (a : AJ) (x : Nat) : Prop := J.1 x = nI (aK a x) ∧ J.2.1 x = kI (aP a x) ∧ J.2.2.1 x = kI (aO a x) ∧ J.2.2.2.1 x = nI (aL a x) ∧ J.2.2.2.2.1 x = nI (aF a x)
def bits4 (a : AJ) (s t : Nat) : Prop := ∀ i, s.testBit i = (decide (i < t) && decide (aK a i = 4))
def bits5 (a : AJ) (s t : Nat) : Prop := ∀ i, s.testBit i = (decide (i < t) && decide (aK a i = 5))
theorem JR.mk' {J : VX2} {a : AJ} {s b : Nat} (h1 : J.2.2.2.2.2.1 = nI (aN a)) (h2 : J.2.2.2.2.2.2.1 = nI s) (h3 : J.2.2.2.2.2.2.2 = nI b) (h4 : bits4 a s (aN a)) (h5 : bits5 a b (aN a)) (h6 : ∀ x, x < aN a → DJ J a x) : JR J a := by
  have e4 : s = spr a := Nat.eq_of_testBit_eq fun i => by unfold spr; rw [bset_bit]; exact h4 i
  have e5 : b = bld a := Nat.eq_of_testBit_eq fun i => by unfold bld; rw [bset_bit]; exact h5 i
  exact ⟨h1, by rw [h2, e4], by rw [h3, e5], h6⟩
/-- a door of it set -/
def aSt (a : AJ) (x k p o l : Nat) : AJ := (aN a, fun z => if z = x then k else aK a z, fun z => if z = x then p else aP a z, fun z => if z = x then o else aO a z, fun z => if z = x then l else aL a z, aF a)
theorem dset_DJ {J : VX2} {a : AJ} {x k p o l s b : Nat} {z : Nat} (h : z ≠ x → DJ J a z) (hf : J.2.2.2.2.1 z = nI (aF a z)) : DJ (dset J x k (kI p) (kI o) (nI l) s b) (aSt a x k p o l) z := by
  by_cases c : z = x
  · subst c
    refine ⟨?_, ?_, ?_, ?_, hf⟩
    · show upd J.1 z (nI k) z = nI (if z = z then k else aK a z); rw [upd_at, if_pos rfl, if_pos rfl]
    · show upd J.2.1 z (kI p) z = kI (if z = z then p else aP a z); rw [upd_at, if_pos rfl, if_pos rfl]
    · show upd J.2.2.1 z (kI o) z = kI (if z = z then o else aO a z); rw [upd_at, if_pos rfl, if_pos rfl]
    · show upd J.2.2.2.1 z (nI l) z = nI (if z = z then l else aL a z); rw [upd_at, if_pos rfl, if_pos rfl]
  · obtain ⟨g1, g2, g3, g4, g5⟩ := h c
    refine ⟨?_, ?_, ?_, ?_, hf⟩
    · show upd J.1 x (nI k) z = nI (if z = x then k else aK a z); rw [upd_at, if_neg c, if_neg c, g1]
    · show upd J.2.1 x (kI p) z = kI (if z = x then p else aP a z); rw [upd_at, if_neg c, if_neg c, g2]
    · show upd J.2.2.1 x (kI o) z = kI (if z = x then o else aO a z); rw [upd_at, if_neg c, if_neg c, g3]
    · show upd J.2.2.2.1 x (nI l) z = nI (if z = x then l else aL a z); rw [upd_at, if_neg c, if_neg c, g4]
theorem JR.set {J : VX2} {a : AJ} (hJ : JR J a) (hn : aN a ≤ 8) {x k p o l : Nat} (hx : x < aN a) (hk : k ≤ 5) : ∃ J', f_X2_setDoor J (nI x) (nI k) (kI p) (kI o) (nI l) = some J' ∧ JR J' (aSt a x k p o l) := by
  refine ⟨_, x2_setDoor hJ.1 hn hx hk hJ.2.1 hJ.2.2.1 _ _ _, JR.mk' hJ.1 rfl rfl (fun i => ?_) (fun i => ?_) (fun z hz => dset_DJ (fun _ => hJ.2.2.2 z hz) (hJ.2.2.2 z hz).2.2.2.2)⟩
  · rw [stb_bit]
    show (if i = x then decide (k = 4) else (spr a).testBit i) = (decide (i < aN a) && decide ((if i = x then k else aK a i) = 4))
    by_cases c : i = x
    · rw [if_pos c, if_pos c, c, decide_eq_true hx, Bool.true_and]
    · rw [if_neg c, if_neg c]; unfold spr; rw [bset_bit]
  · rw [stb_bit]
    show (if i = x then decide (k = 5) else (bld a).testBit i) = (decide (i < aN a) && decide ((if i = x then k else aK a i) = 5))
    by_cases c : i = x
    · rw [if_pos c, if_pos c, c, decide_eq_true hx, Bool.true_and]
    · rw [if_neg c, if_neg c]; unfold bld; rw [bset_bit]
/-- as it is built -/
def aB (n : Nat) : AJ := (n, fun _ => 0, fun x => if x + 1 < n then x + 1 else 0, fun _ => 99, fun _ => 0, fun _ => 0)
def fset (J : VX2) (x : Nat) (v : Int32) : VX2 := (J.1, J.2.1, J.2.2.1, J.2.2.2.1, upd J.2.2.2.2.1 x v, J.2.2.2.2.2.1, J.2.2.2.2.2.2.1, J.2.2.2.2.2.2.2)
theorem fset_DJ {J : VX2} {a' : AJ} {x k p o l s b : Nat} (hk : aK a' x = k) (hp : aP a' x = p) (ho : aO a' x = o) (hl : aL a' x = l) {z : Nat} (h : z ≠ x → DJ J a' z) : DJ (fset (dset J x k (kI p) (kI o) (nI l) s b) x (nI (aF a' x))) a' z := by
  by_cases c : z = x
  · subst c
    refine ⟨?_, ?_, ?_, ?_, ?_⟩
    · show upd J.1 z (nI k) z = nI (aK a' z); rw [upd_at, if_pos rfl, hk]
    · show upd J.2.1 z (kI p) z = kI (aP a' z); rw [upd_at, if_pos rfl, hp]
    · show upd J.2.2.1 z (kI o) z = kI (aO a' z); rw [upd_at, if_pos rfl, ho]
    · show upd J.2.2.2.1 z (nI l) z = nI (aL a' z); rw [upd_at, if_pos rfl, hl]
    · show upd J.2.2.2.2.1 z (nI (aF a' z)) z = nI (aF a' z); rw [upd_at, if_pos rfl]
  · obtain ⟨g1, g2, g3, g4, g5⟩ := h c
    refine ⟨?_, ?_, ?_, ?_, ?_⟩
    · show upd J.1 x (nI k) z = nI (aK a' z); rw [upd_at, if_neg c, g1]
    · show upd J.2.1 x (kI p) z = kI (aP a' z); rw [upd_at, if_neg c, g2]
    · show upd J.2.2.1 x (kI o) z = kI (aO a' z); rw [upd_at, if_neg c, g3]
    · show upd J.2.2.2.1 x (nI l) z = nI (aL a' z); rw [upd_at, if_neg c, g4]
    · show upd J.2.2.2.2.1 x (nI (aF a' x)) z = nI (aF a' z); rw [upd_at, if_neg c, g5]
theorem stb0 (x : Nat) : stb 0 x false = 0 := Nat.eq_of_testBit_eq fun i => by
  rw [stb_bit, Nat.zero_testBit]
  by_cases c : i = x
  · rw [if_pos c]
  · rw [if_neg c]
def jcl (J : VX2) (n : Nat) : VX2 := (J.1, J.2.1, J.2.2.1, J.2.2.2.1, J.2.2.2.2.1, nI n, 0, 0)
theorem x2_build31 (n : Nat) (hn : n ≤ 8) (J : VX2) (h1 : J.2.2.2.2.2.1 = nI n) (h2 : J.2.2.2.2.2.2.1 = nI 0) (h3 : J.2.2.2.2.2.2.2 = nI 0) : ∃ J', f_X2_build_31 4096 J 0 = some J' ∧ JR J' (aB n) := by
  refine loop_up (fun f (J : VX2) v2 => f_X2_build_31 f J v2) n (fun t J => J.2.2.2.2.2.1 = nI n ∧ J.2.2.2.2.2.2.1 = nI 0 ∧ J.2.2.2.2.2.2.2 = nI 0 ∧ ∀ x, x < t → DJ J (aB n) x) (fun p => ∃ J', p = some J' ∧ JR J' (aB n)) ?_ ?_ 4096 0 J (Nat.zero_le _) ⟨h1, h2, h3, fun x h => by omega⟩ (by omega)
  · rintro f J ⟨h1, h2, h3, h4⟩
    refine ⟨J, ?_, JR.mk' (a := aB n) h1 h2 h3 (fun i => ?_) (fun i => ?_) h4⟩
    · show f_X2_build_31 (f + 1) J (nI n) = _
      rw [f_X2_build_31, if_pos (by rw [h1]; exact nI_le (Nat.le_refl _) (by omega))]
    · rw [Nat.zero_testBit, show decide (aK (aB n) i = 4) = false from rfl, Bool.and_false]
    · rw [Nat.zero_testBit, show decide (aK (aB n) i = 5) = false from rfl, Bool.and_false]
  · rintro f J x hx ⟨h1, h2, h3, h4⟩
    right
    have h1 : J.2.2.2.2.2.1 = nI n := h1
    have h2 : J.2.2.2.2.2.2.1 = nI 0 := h2
    have h3 : J.2.2.2.2.2.2.2 = nI 0 := h3
    have h4 : ∀ z, z < x → DJ J (aB n) z := h4
    refine ⟨fset (dset J x 0 (kI (aP (aB n) x)) (kI 99) (nI 0) 0 0) x (nI (aF (aB n) x)), ⟨h1, rfl, rfl, fun z hz => fset_DJ rfl rfl rfl rfl (fun c => h4 z (by omega))⟩, ?_⟩
    show f_X2_build_31 (f + 1) J (nI x) = f_X2_build_31 f _ (nI (x + 1))
    have e : f_X2_build_31 (f + 1) J (nI x) = f_X2_build_59 (f_X2_build_31 f) J (nI x) (kI (aP (aB n) x)) 0 (nI x) := by
      rw [f_X2_build_31, if_neg (by rw [h1]; exact nI_ge hx (by omega)), nI_1]
      by_cases c : x + 1 < n
      · rw [if_neg (by rw [h1]; exact nI_ge c (by omega)), show aP (aB n) x = x + 1 from if_pos c, kI_lt (by omega)]
      · rw [if_pos (by rw [h1]; exact nI_le (by omega) (by omega)), show aP (aB n) x = 0 from if_neg c]; rfl
    rw [e]
    unfold f_X2_build_59
    rw [show f_X2_setDoor J (nI x) 0 (kI (aP (aB n) x)) (-9) 0 = _ from x2_setDoor (k := 0) h1 hn hx (by omega) h2 h3 (kI (aP (aB n) x)) (-9) 0, Option.bind_some, zIn_t (show x < 8 by omega) (by decide), if_pos rfl, nI_clamp (by omega), nI_1, show decide (0 = 4) = false from rfl, show decide (0 = 5) = false from rfl, stb0]
    rfl
theorem x2_build (J : VX2) {n : Nat} (hn : n ≤ 8) : ∃ J', f_X2_build J (nI n) = some J' ∧ JR J' (aB n) := by
  unfold f_X2_build
  rw [if_neg (nI_pos (by omega)), if_neg (show ¬ (8 : Int32) < nI n from nI_nlt hn (by decide))]
  exact x2_build31 n hn (jcl J n) rfl rfl rfl
theorem x2_become (J : VX2) {P : VX2} {a : AJ} (hP : JR P a) (hV : AV a) : ∃ J', f_X2_become J P = some J' ∧ JR J' a := by
  have hn := hV.2.1
  unfold f_X2_become
  rw [hP.1]
  obtain ⟨J1, e1, j1⟩ := x2_build J hn
  rw [e1, Option.bind_some]
  have s0 : spr (aB (aN a)) = 0 := Nat.eq_of_testBit_eq fun i => by unfold spr; rw [bset_bit, Nat.zero_testBit, show decide (aK (aB (aN a)) i = 4) = false from rfl, Bool.and_false]
  have b0 : bld (aB (aN a)) = 0 := Nat.eq_of_testBit_eq fun i => by unfold bld; rw [bset_bit, Nat.zero_testBit, show decide (aK (aB (aN a)) i = 5) = false from rfl, Bool.and_false]
  refine loop_up (fun f (J : VX2) v2 => f_X2_become_10 f J P v2) (aN a) (fun t J => J.2.2.2.2.2.1 = nI (aN a) ∧ (∃ s, J.2.2.2.2.2.2.1 = nI s ∧ bits4 a s t) ∧ (∃ b, J.2.2.2.2.2.2.2 = nI b ∧ bits5 a b t) ∧ ∀ x, x < t → DJ J a x) (fun p => ∃ J', p = some J' ∧ JR J' a) ?_ ?_ 4096 0 J1 (Nat.zero_le _) ⟨j1.1, ⟨0, by rw [j1.2.1, s0], fun i => ?_⟩, ⟨0, by rw [j1.2.2.1, b0], fun i => ?_⟩, fun x h => by omega⟩ (by omega)
  · rintro f J ⟨h1, ⟨s, h2, h2'⟩, ⟨b, h3, h3'⟩, h4⟩
    refine ⟨J, ?_, JR.mk' h1 h2 h3 h2' h3' h4⟩
    show f_X2_become_10 (f + 1) J P (nI (aN a)) = _
    rw [f_X2_become_10, if_pos (by rw [h1]; exact nI_le (Nat.le_refl _) (by omega))]
  · rintro f J x hx ⟨h1, ⟨s, h2, h2'⟩, ⟨b, h3, h3'⟩, h4⟩
    right
    have h1 : J.2.2.2.2.2.1 = nI (aN a) := h1
    have h2 : J.2.2.2.2.2.2.1 = nI s := h2
    have h3 : J.2.2.2.2.2.2.2 = nI b := h3
    have h4 : ∀ z, z < x → DJ J a z := h4
    obtain ⟨g1, g2, g3, g4, g5⟩ := hP.2.2.2 x hx
    refine ⟨fset (dset J x (aK a x) (kI (aP a x)) (kI (aO a x)) (nI (aL a x)) (stb s x (decide (aK a x = 4))) (stb b x (decide (aK a x = 5)))) x (nI (aF a x)), ⟨h1, ⟨_, rfl, fun i => ?_⟩, ⟨_, rfl, fun i => ?_⟩, fun z hz => fset_DJ rfl rfl rfl rfl (fun c => h4 z (by omega))⟩, ?_⟩
    · rw [stb_bit]
      by_cases c : i = x
      · rw [if_pos c, c, decide_eq_true (show x < x + 1 by omega), Bool.true_and]
      · rw [if_neg c, h2' i]
        by_cases d : i < x
        · rw [decide_eq_true d, decide_eq_true (show i < x + 1 by omega)]
        · rw [decide_eq_false d, decide_eq_false (show ¬ i < x + 1 by omega)]
    · rw [stb_bit]
      by_cases c : i = x
      · rw [if_pos c, c, decide_eq_true (show x < x + 1 by omega), Bool.true_and]
      · rw [if_neg c, h3' i]
        by_cases d : i < x
        · rw [decide_eq_true d, decide_eq_true (show i < x + 1 by omega)]
        · rw [decide_eq_false d, decide_eq_false (show ¬ i < x + 1 by omega)]
    · show f_X2_become_10 (f + 1) J P (nI x) = f_X2_become_10 f _ P (nI (x + 1))
      rw [f_X2_become_10, if_neg (by rw [h1]; exact nI_ge hx (by omega)), zIn_t (show x < 8 by omega) (by decide), nI_clamp (by omega), g1, g2, g3, g4, g5, x2_setDoor h1 hn hx (hV.2.2 x hx).1 h2 h3 _ _ _]
      simp only [if_T]
      rw [Option.bind_some, nI_1]
      rfl
  · rw [Nat.zero_testBit, decide_eq_false (show ¬ i < 0 by omega), Bool.false_and]
  · rw [Nat.zero_testBit, decide_eq_false (show ¬ i < 0 by omega), Bool.false_and]
