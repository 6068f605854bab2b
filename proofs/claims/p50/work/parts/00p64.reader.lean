/-! THE STEPS: fault, jail -/
theorem mP_0 (M : VX11) : (M.1, M.2.1, M.2.2.1, M.2.2.2.1, M.2.2.2.2.1, M.2.2.2.2.2.1, M.2.2.2.2.2.2.1, M.2.2.2.2.2.2.2.1, M.2.2.2.2.2.2.2.2.1, M.2.2.2.2.2.2.2.2.2.1, M.2.2.2.2.2.2.2.2.2.2.1, M.2.2.2.2.2.2.2.2.2.2.2.1, M.2.2.2.2.2.2.2.2.2.2.2.2.1, 0, M.2.2.2.2.2.2.2.2.2.2.2.2.2.2.1, 0, M.2.2.2.2.2.2.2.2.2.2.2.2.2.2.2.2.1, M.2.2.2.2.2.2.2.2.2.2.2.2.2.2.2.2.2.1, M.2.2.2.2.2.2.2.2.2.2.2.2.2.2.2.2.2.2.1, M.2.2.2.2.2.2.2.2.2.2.2.2.2.2.2.2.2.2.2.1, M.2.2.2.2.2.2.2.2.2.2.2.2.2.2.2.2.2.2.2.2.1, M.2.2.2.2.2.2.2.2.2.2.2.2.2.2.2.2.2.2.2.2.2.1, M.2.2.2.2.2.2.2.2.2.2.2.2.2.2.2.2.2.2.2.2.2.2.1, M.2.2.2.2.2.2.2.2.2.2.2.2.2.2.2.2.2.2.2.2.2.2.2.1, M.2.2.2.2.2.2.2.2.2.2.2.2.2.2.2.2.2.2.2.2.2.2.2.2.1, M.2.2.2.2.2.2.2.2.2.2.2.2.2.2.2.2.2.2.2.2.2.2.2.2.2.1, M.2.2.2.2.2.2.2.2.2.2.2.2.2.2.2.2.2.2.2.2.2.2.2.2.2.2.1, M.2.2.2.2.2.2.2.2.2.2.2.2.2.2.2.2.2.2.2.2.2.2.2.2.2.2.2.1, M.2.2.2.2.2.2.2.2.2.2.2.2.2.2.2.2.2.2.2.2.2.2.2.2.2.2.2.2.1, M.2.2.2.2.2.2.2.2.2.2.2.2.2.2.2.2.2.2.2.2.2.2.2.2.2.2.2.2.2.1, M.2.2.2.2.2.2.2.2.2.2.2.2.2.2.2.2.2.2.2.2.2.2.2.2.2.2.2.2.2.2) = mP M (nI 0) M.2.2.2.2.2.2.2.2.2.2.2.2.2.2.1 0 M.2.2.2.2.2.2.2.2.2.2.2.2.2.2.2.2.1 M.2.2.2.2.2.2.2.2.2.2.2.2.2.2.2.2.2.1 := rfl
theorem read_both {Z : VX8} {M : VX11} {r k : Nat} (h : TX Z M r k) (R : VX5) : ∃ (res : Int32) (S' : VX5) (at' num' cells' : Int32) (D' Q' : Nat → Int32), f_X5_read R Z (nI r) = some (res, S') ∧ f_X11_faultOf M (nI r) = some (res, mP M at' num' cells' D' Q') ∧ ((∃ j, j ≤ k ∧ res = nI j) ∨ (res = -9 ∧ ∃ a, cells' = nI (aN a) ∧ Bd S' a D' Q')) := by
  obtain ⟨hr, hk, e1, -⟩ := id h
  obtain ⟨res, S', at', num', cells', D', Q', b1, b2, b3⟩ := read_main h k 0 4096 4096 ((R.1, R.2.1, 0, 0, 0)) M.2.2.2.2.2.2.2.2.2.2.2.2.2.2.1 0 M.2.2.2.2.2.2.2.2.2.2.2.2.2.2.2.2.1 M.2.2.2.2.2.2.2.2.2.2.2.2.2.2.2.2.2.1 (by omega) (by omega) (by omega) (by omega) (Or.inl ⟨rfl, rfl, rfl⟩)
  refine ⟨res, S', at', num', cells', D', Q', ?_, ?_, b3⟩
  · unfold f_X5_read
    rw [x8_size hr, e1, Option.bind_some]
    exact b1
  · unfold f_X11_faultOf
    rw [mP_0]
    exact b2
theorem Rest.mP (M : VX11) (a1 a2 a3 : Int32) (D Q : Nat → Int32) : Rest (mP M a1 a2 a3 D Q) M := ⟨⟨rfl, rfl, rfl, rfl, rfl⟩, ⟨rfl, rfl⟩, ⟨rfl, rfl⟩, ⟨rfl, rfl, rfl, rfl⟩, rfl, rfl, rfl⟩
theorem MR.mP {M : VX11} {a : AJ} (h : MR M a) (a1 a2 a3 : Int32) (D Q : Nat → Int32) : MR (mP M a1 a2 a3 D Q) a := MR.of h rfl rfl rfl
def mE (N : VX11) (n : Int32) (Dd Qq : Nat → Int32) : VX11 := (N.1, N.2.1, N.2.2.1, N.2.2.2.1, N.2.2.2.2.1, N.2.2.2.2.2.1, N.2.2.2.2.2.2.1, N.2.2.2.2.2.2.2.1, N.2.2.2.2.2.2.2.2.1, N.2.2.2.2.2.2.2.2.2.1, n, Dd, Qq, N.2.2.2.2.2.2.2.2.2.2.2.2.2.1, N.2.2.2.2.2.2.2.2.2.2.2.2.2.2.1, N.2.2.2.2.2.2.2.2.2.2.2.2.2.2.2.1, N.2.2.2.2.2.2.2.2.2.2.2.2.2.2.2.2.1, N.2.2.2.2.2.2.2.2.2.2.2.2.2.2.2.2.2.1, N.2.2.2.2.2.2.2.2.2.2.2.2.2.2.2.2.2.2.1, N.2.2.2.2.2.2.2.2.2.2.2.2.2.2.2.2.2.2.2.1, N.2.2.2.2.2.2.2.2.2.2.2.2.2.2.2.2.2.2.2.2.1, N.2.2.2.2.2.2.2.2.2.2.2.2.2.2.2.2.2.2.2.2.2.1, N.2.2.2.2.2.2.2.2.2.2.2.2.2.2.2.2.2.2.2.2.2.2.1, N.2.2.2.2.2.2.2.2.2.2.2.2.2.2.2.2.2.2.2.2.2.2.2.1, N.2.2.2.2.2.2.2.2.2.2.2.2.2.2.2.2.2.2.2.2.2.2.2.2.1, N.2.2.2.2.2.2.2.2.2.2.2.2.2.2.2.2.2.2.2.2.2.2.2.2.2.1, N.2.2.2.2.2.2.2.2.2.2.2.2.2.2.2.2.2.2.2.2.2.2.2.2.2.2.1, N.2.2.2.2.2.2.2.2.2.2.2.2.2.2.2.2.2.2.2.2.2.2.2.2.2.2.2.1, N.2.2.2.2.2.2.2.2.2.2.2.2.2.2.2.2.2.2.2.2.2.2.2.2.2.2.2.2.1, N.2.2.2.2.2.2.2.2.2.2.2.2.2.2.2.2.2.2.2.2.2.2.2.2.2.2.2.2.2.1, N.2.2.2.2.2.2.2.2.2.2.2.2.2.2.2.2.2.2.2.2.2.2.2.2.2.2.2.2.2.2)
def mG (K : VX11) (ko : Nat → Int32) : VX11 := (K.1, K.2.1, K.2.2.1, K.2.2.2.1, K.2.2.2.2.1, K.2.2.2.2.2.1, K.2.2.2.2.2.2.1, K.2.2.2.2.2.2.2.1, K.2.2.2.2.2.2.2.2.1, K.2.2.2.2.2.2.2.2.2.1, K.2.2.2.2.2.2.2.2.2.2.1, K.2.2.2.2.2.2.2.2.2.2.2.1, K.2.2.2.2.2.2.2.2.2.2.2.2.1, K.2.2.2.2.2.2.2.2.2.2.2.2.2.1, K.2.2.2.2.2.2.2.2.2.2.2.2.2.2.1, K.2.2.2.2.2.2.2.2.2.2.2.2.2.2.2.1, K.2.2.2.2.2.2.2.2.2.2.2.2.2.2.2.2.1, K.2.2.2.2.2.2.2.2.2.2.2.2.2.2.2.2.2.1, 0, 0, ko, K.2.2.2.2.2.2.2.2.2.2.2.2.2.2.2.2.2.2.2.2.2.1, K.2.2.2.2.2.2.2.2.2.2.2.2.2.2.2.2.2.2.2.2.2.2.1, K.2.2.2.2.2.2.2.2.2.2.2.2.2.2.2.2.2.2.2.2.2.2.2.1, K.2.2.2.2.2.2.2.2.2.2.2.2.2.2.2.2.2.2.2.2.2.2.2.2.1, K.2.2.2.2.2.2.2.2.2.2.2.2.2.2.2.2.2.2.2.2.2.2.2.2.2.1, K.2.2.2.2.2.2.2.2.2.2.2.2.2.2.2.2.2.2.2.2.2.2.2.2.2.2.1, 0, K.2.2.2.2.2.2.2.2.2.2.2.2.2.2.2.2.2.2.2.2.2.2.2.2.2.2.2.2.1, K.2.2.2.2.2.2.2.2.2.2.2.2.2.2.2.2.2.2.2.2.2.2.2.2.2.2.2.2.2.1, K.2.2.2.2.2.2.2.2.2.2.2.2.2.2.2.2.2.2.2.2.2.2.2.2.2.2.2.2.2.2)
theorem mE_id (N : VX11) (n : Int32) : (N.1, N.2.1, N.2.2.1, N.2.2.2.1, N.2.2.2.2.1, N.2.2.2.2.2.1, N.2.2.2.2.2.2.1, N.2.2.2.2.2.2.2.1, N.2.2.2.2.2.2.2.2.1, N.2.2.2.2.2.2.2.2.2.1, n, N.2.2.2.2.2.2.2.2.2.2.2.1, N.2.2.2.2.2.2.2.2.2.2.2.2.1, N.2.2.2.2.2.2.2.2.2.2.2.2.2.1, N.2.2.2.2.2.2.2.2.2.2.2.2.2.2.1, N.2.2.2.2.2.2.2.2.2.2.2.2.2.2.2.1, N.2.2.2.2.2.2.2.2.2.2.2.2.2.2.2.2.1, N.2.2.2.2.2.2.2.2.2.2.2.2.2.2.2.2.2.1, N.2.2.2.2.2.2.2.2.2.2.2.2.2.2.2.2.2.2.1, N.2.2.2.2.2.2.2.2.2.2.2.2.2.2.2.2.2.2.2.1, N.2.2.2.2.2.2.2.2.2.2.2.2.2.2.2.2.2.2.2.2.1, N.2.2.2.2.2.2.2.2.2.2.2.2.2.2.2.2.2.2.2.2.2.1, N.2.2.2.2.2.2.2.2.2.2.2.2.2.2.2.2.2.2.2.2.2.2.1, N.2.2.2.2.2.2.2.2.2.2.2.2.2.2.2.2.2.2.2.2.2.2.2.1, N.2.2.2.2.2.2.2.2.2.2.2.2.2.2.2.2.2.2.2.2.2.2.2.2.1, N.2.2.2.2.2.2.2.2.2.2.2.2.2.2.2.2.2.2.2.2.2.2.2.2.2.1, N.2.2.2.2.2.2.2.2.2.2.2.2.2.2.2.2.2.2.2.2.2.2.2.2.2.2.1, N.2.2.2.2.2.2.2.2.2.2.2.2.2.2.2.2.2.2.2.2.2.2.2.2.2.2.2.1, N.2.2.2.2.2.2.2.2.2.2.2.2.2.2.2.2.2.2.2.2.2.2.2.2.2.2.2.2.1, N.2.2.2.2.2.2.2.2.2.2.2.2.2.2.2.2.2.2.2.2.2.2.2.2.2.2.2.2.2.1, N.2.2.2.2.2.2.2.2.2.2.2.2.2.2.2.2.2.2.2.2.2.2.2.2.2.2.2.2.2.2) = mE N n N.2.2.2.2.2.2.2.2.2.2.2.1 N.2.2.2.2.2.2.2.2.2.2.2.2.1 := rfl
theorem mE_d (N : VX11) (n : Int32) (Dd Qq : Nat → Int32) (i : Nat) (v : Int32) : ((mE N n Dd Qq).1, (mE N n Dd Qq).2.1, (mE N n Dd Qq).2.2.1, (mE N n Dd Qq).2.2.2.1, (mE N n Dd Qq).2.2.2.2.1, (mE N n Dd Qq).2.2.2.2.2.1, (mE N n Dd Qq).2.2.2.2.2.2.1, (mE N n Dd Qq).2.2.2.2.2.2.2.1, (mE N n Dd Qq).2.2.2.2.2.2.2.2.1, (mE N n Dd Qq).2.2.2.2.2.2.2.2.2.1, (mE N n Dd Qq).2.2.2.2.2.2.2.2.2.2.1, upd (mE N n Dd Qq).2.2.2.2.2.2.2.2.2.2.2.1 i v, (mE N n Dd Qq).2.2.2.2.2.2.2.2.2.2.2.2.1, (mE N n Dd Qq).2.2.2.2.2.2.2.2.2.2.2.2.2.1, (mE N n Dd Qq).2.2.2.2.2.2.2.2.2.2.2.2.2.2.1, (mE N n Dd Qq).2.2.2.2.2.2.2.2.2.2.2.2.2.2.2.1, (mE N n Dd Qq).2.2.2.2.2.2.2.2.2.2.2.2.2.2.2.2.1, (mE N n Dd Qq).2.2.2.2.2.2.2.2.2.2.2.2.2.2.2.2.2.1, (mE N n Dd Qq).2.2.2.2.2.2.2.2.2.2.2.2.2.2.2.2.2.2.1, (mE N n Dd Qq).2.2.2.2.2.2.2.2.2.2.2.2.2.2.2.2.2.2.2.1, (mE N n Dd Qq).2.2.2.2.2.2.2.2.2.2.2.2.2.2.2.2.2.2.2.2.1, (mE N n Dd Qq).2.2.2.2.2.2.2.2.2.2.2.2.2.2.2.2.2.2.2.2.2.1, (mE N n Dd Qq).2.2.2.2.2.2.2.2.2.2.2.2.2.2.2.2.2.2.2.2.2.2.1, (mE N n Dd Qq).2.2.2.2.2.2.2.2.2.2.2.2.2.2.2.2.2.2.2.2.2.2.2.1, (mE N n Dd Qq).2.2.2.2.2.2.2.2.2.2.2.2.2.2.2.2.2.2.2.2.2.2.2.2.1, (mE N n Dd Qq).2.2.2.2.2.2.2.2.2.2.2.2.2.2.2.2.2.2.2.2.2.2.2.2.2.1, (mE N n Dd Qq).2.2.2.2.2.2.2.2.2.2.2.2.2.2.2.2.2.2.2.2.2.2.2.2.2.2.1, (mE N n Dd Qq).2.2.2.2.2.2.2.2.2.2.2.2.2.2.2.2.2.2.2.2.2.2.2.2.2.2.2.1, (mE N n Dd Qq).2.2.2.2.2.2.2.2.2.2.2.2.2.2.2.2.2.2.2.2.2.2.2.2.2.2.2.2.1, (mE N n Dd Qq).2.2.2.2.2.2.2.2.2.2.2.2.2.2.2.2.2.2.2.2.2.2.2.2.2.2.2.2.2.1, (mE N n Dd Qq).2.2.2.2.2.2.2.2.2.2.2.2.2.2.2.2.2.2.2.2.2.2.2.2.2.2.2.2.2.2) = mE N n (upd Dd i v) Qq := rfl
theorem mE_q (N : VX11) (n : Int32) (Dd Qq : Nat → Int32) (i : Nat) (v : Int32) : ((mE N n Dd Qq).1, (mE N n Dd Qq).2.1, (mE N n Dd Qq).2.2.1, (mE N n Dd Qq).2.2.2.1, (mE N n Dd Qq).2.2.2.2.1, (mE N n Dd Qq).2.2.2.2.2.1, (mE N n Dd Qq).2.2.2.2.2.2.1, (mE N n Dd Qq).2.2.2.2.2.2.2.1, (mE N n Dd Qq).2.2.2.2.2.2.2.2.1, (mE N n Dd Qq).2.2.2.2.2.2.2.2.2.1, (mE N n Dd Qq).2.2.2.2.2.2.2.2.2.2.1, (mE N n Dd Qq).2.2.2.2.2.2.2.2.2.2.2.1, upd (mE N n Dd Qq).2.2.2.2.2.2.2.2.2.2.2.2.1 i v, (mE N n Dd Qq).2.2.2.2.2.2.2.2.2.2.2.2.2.1, (mE N n Dd Qq).2.2.2.2.2.2.2.2.2.2.2.2.2.2.1, (mE N n Dd Qq).2.2.2.2.2.2.2.2.2.2.2.2.2.2.2.1, (mE N n Dd Qq).2.2.2.2.2.2.2.2.2.2.2.2.2.2.2.2.1, (mE N n Dd Qq).2.2.2.2.2.2.2.2.2.2.2.2.2.2.2.2.2.1, (mE N n Dd Qq).2.2.2.2.2.2.2.2.2.2.2.2.2.2.2.2.2.2.1, (mE N n Dd Qq).2.2.2.2.2.2.2.2.2.2.2.2.2.2.2.2.2.2.2.1, (mE N n Dd Qq).2.2.2.2.2.2.2.2.2.2.2.2.2.2.2.2.2.2.2.2.1, (mE N n Dd Qq).2.2.2.2.2.2.2.2.2.2.2.2.2.2.2.2.2.2.2.2.2.1, (mE N n Dd Qq).2.2.2.2.2.2.2.2.2.2.2.2.2.2.2.2.2.2.2.2.2.2.1, (mE N n Dd Qq).2.2.2.2.2.2.2.2.2.2.2.2.2.2.2.2.2.2.2.2.2.2.2.1, (mE N n Dd Qq).2.2.2.2.2.2.2.2.2.2.2.2.2.2.2.2.2.2.2.2.2.2.2.2.1, (mE N n Dd Qq).2.2.2.2.2.2.2.2.2.2.2.2.2.2.2.2.2.2.2.2.2.2.2.2.2.1, (mE N n Dd Qq).2.2.2.2.2.2.2.2.2.2.2.2.2.2.2.2.2.2.2.2.2.2.2.2.2.2.1, (mE N n Dd Qq).2.2.2.2.2.2.2.2.2.2.2.2.2.2.2.2.2.2.2.2.2.2.2.2.2.2.2.1, (mE N n Dd Qq).2.2.2.2.2.2.2.2.2.2.2.2.2.2.2.2.2.2.2.2.2.2.2.2.2.2.2.2.1, (mE N n Dd Qq).2.2.2.2.2.2.2.2.2.2.2.2.2.2.2.2.2.2.2.2.2.2.2.2.2.2.2.2.2.1, (mE N n Dd Qq).2.2.2.2.2.2.2.2.2.2.2.2.2.2.2.2.2.2.2.2.2.2.2.2.2.2.2.2.2.2) = mE N n Dd (upd Qq i v) := rfl
theorem mG_id (K : VX11) : (K.1, K.2.1, K.2.2.1, K.2.2.2.1, K.2.2.2.2.1, K.2.2.2.2.2.1, K.2.2.2.2.2.2.1, K.2.2.2.2.2.2.2.1, K.2.2.2.2.2.2.2.2.1, K.2.2.2.2.2.2.2.2.2.1, K.2.2.2.2.2.2.2.2.2.2.1, K.2.2.2.2.2.2.2.2.2.2.2.1, K.2.2.2.2.2.2.2.2.2.2.2.2.1, K.2.2.2.2.2.2.2.2.2.2.2.2.2.1, K.2.2.2.2.2.2.2.2.2.2.2.2.2.2.1, K.2.2.2.2.2.2.2.2.2.2.2.2.2.2.2.1, K.2.2.2.2.2.2.2.2.2.2.2.2.2.2.2.2.1, K.2.2.2.2.2.2.2.2.2.2.2.2.2.2.2.2.2.1, 0, 0, K.2.2.2.2.2.2.2.2.2.2.2.2.2.2.2.2.2.2.2.2.1, K.2.2.2.2.2.2.2.2.2.2.2.2.2.2.2.2.2.2.2.2.2.1, K.2.2.2.2.2.2.2.2.2.2.2.2.2.2.2.2.2.2.2.2.2.2.1, K.2.2.2.2.2.2.2.2.2.2.2.2.2.2.2.2.2.2.2.2.2.2.2.1, K.2.2.2.2.2.2.2.2.2.2.2.2.2.2.2.2.2.2.2.2.2.2.2.2.1, K.2.2.2.2.2.2.2.2.2.2.2.2.2.2.2.2.2.2.2.2.2.2.2.2.2.1, K.2.2.2.2.2.2.2.2.2.2.2.2.2.2.2.2.2.2.2.2.2.2.2.2.2.2.1, 0, K.2.2.2.2.2.2.2.2.2.2.2.2.2.2.2.2.2.2.2.2.2.2.2.2.2.2.2.2.1, K.2.2.2.2.2.2.2.2.2.2.2.2.2.2.2.2.2.2.2.2.2.2.2.2.2.2.2.2.2.1, K.2.2.2.2.2.2.2.2.2.2.2.2.2.2.2.2.2.2.2.2.2.2.2.2.2.2.2.2.2.2) = mG K K.2.2.2.2.2.2.2.2.2.2.2.2.2.2.2.2.2.2.2.2.1 := rfl
theorem mG_k (K : VX11) (ko : Nat → Int32) (i : Nat) (v : Int32) : ((mG K ko).1, (mG K ko).2.1, (mG K ko).2.2.1, (mG K ko).2.2.2.1, (mG K ko).2.2.2.2.1, (mG K ko).2.2.2.2.2.1, (mG K ko).2.2.2.2.2.2.1, (mG K ko).2.2.2.2.2.2.2.1, (mG K ko).2.2.2.2.2.2.2.2.1, (mG K ko).2.2.2.2.2.2.2.2.2.1, (mG K ko).2.2.2.2.2.2.2.2.2.2.1, (mG K ko).2.2.2.2.2.2.2.2.2.2.2.1, (mG K ko).2.2.2.2.2.2.2.2.2.2.2.2.1, (mG K ko).2.2.2.2.2.2.2.2.2.2.2.2.2.1, (mG K ko).2.2.2.2.2.2.2.2.2.2.2.2.2.2.1, (mG K ko).2.2.2.2.2.2.2.2.2.2.2.2.2.2.2.1, (mG K ko).2.2.2.2.2.2.2.2.2.2.2.2.2.2.2.2.1, (mG K ko).2.2.2.2.2.2.2.2.2.2.2.2.2.2.2.2.2.1, (mG K ko).2.2.2.2.2.2.2.2.2.2.2.2.2.2.2.2.2.2.1, (mG K ko).2.2.2.2.2.2.2.2.2.2.2.2.2.2.2.2.2.2.2.1, upd (mG K ko).2.2.2.2.2.2.2.2.2.2.2.2.2.2.2.2.2.2.2.2.1 i v, (mG K ko).2.2.2.2.2.2.2.2.2.2.2.2.2.2.2.2.2.2.2.2.2.1, (mG K ko).2.2.2.2.2.2.2.2.2.2.2.2.2.2.2.2.2.2.2.2.2.2.1, (mG K ko).2.2.2.2.2.2.2.2.2.2.2.2.2.2.2.2.2.2.2.2.2.2.2.1, (mG K ko).2.2.2.2.2.2.2.2.2.2.2.2.2.2.2.2.2.2.2.2.2.2.2.2.1, (mG K ko).2.2.2.2.2.2.2.2.2.2.2.2.2.2.2.2.2.2.2.2.2.2.2.2.2.1, (mG K ko).2.2.2.2.2.2.2.2.2.2.2.2.2.2.2.2.2.2.2.2.2.2.2.2.2.2.1, (mG K ko).2.2.2.2.2.2.2.2.2.2.2.2.2.2.2.2.2.2.2.2.2.2.2.2.2.2.2.1, (mG K ko).2.2.2.2.2.2.2.2.2.2.2.2.2.2.2.2.2.2.2.2.2.2.2.2.2.2.2.2.1, (mG K ko).2.2.2.2.2.2.2.2.2.2.2.2.2.2.2.2.2.2.2.2.2.2.2.2.2.2.2.2.2.1, (mG K ko).2.2.2.2.2.2.2.2.2.2.2.2.2.2.2.2.2.2.2.2.2.2.2.2.2.2.2.2.2.2) = mG K (upd ko i v) := rfl
theorem m_jail47 (N : VX11) (n : Int32) (Dd Qq : Nat → Int32) : ∃ Dd', f_X11_jail_47 4096 (mE N n Dd Qq) 0 = f_X11_jail_73 4096 (mE N n Dd' Qq) 0 ∧ ∀ i, i < 32 → Dd' i = N.2.2.2.2.2.2.2.2.2.2.2.2.2.2.2.2.1 i := by
  refine loop_up (fun f (Dd : Nat → Int32) v2 => f_X11_jail_47 f (mE N n Dd Qq) v2) 32 (fun t Dd => ∀ i, i < t → Dd i = N.2.2.2.2.2.2.2.2.2.2.2.2.2.2.2.2.1 i) (fun p => ∃ Dd', p = f_X11_jail_73 4096 (mE N n Dd' Qq) 0 ∧ ∀ i, i < 32 → Dd' i = N.2.2.2.2.2.2.2.2.2.2.2.2.2.2.2.2.1 i) ?_ ?_ 4096 0 Dd (Nat.zero_le _) (fun i h => by omega) (by omega)
  · rintro f Dd h
    refine ⟨Dd, ?_, h⟩
    show f_X11_jail_47 (f + 1) (mE N n Dd Qq) (nI 32) = _
    rw [f_X11_jail_47, if_pos (by decide)]
  · rintro f Dd x hx h
    right
    refine ⟨upd Dd x (N.2.2.2.2.2.2.2.2.2.2.2.2.2.2.2.2.1 x), fun i hi => ?_, ?_⟩
    · rw [upd_at]
      by_cases c : i = x
      · rw [if_pos c, c]
      · rw [if_neg c]; exact h i (by omega)
    · show f_X11_jail_47 (f + 1) (mE N n Dd Qq) (nI x) = _
      rw [f_X11_jail_47, if_neg (show ¬ (32 : Int32) ≤ nI x from nI_ge hx (by decide)), zIn_t hx (by decide), if_pos rfl, if_pos rfl, nI_clamp (by omega), nI_1]
      exact congrArg (fun Z : VX11 => f_X11_jail_47 f Z (nI (x + 1))) (mE_d N n Dd Qq x (N.2.2.2.2.2.2.2.2.2.2.2.2.2.2.2.2.1 x))
theorem m_jail73 (N : VX11) {n : Nat} (hn : n ≤ 8) (Dd Qq : Nat → Int32) : ∃ Qq', f_X11_jail_73 4096 (mE N (nI n) Dd Qq) 0 = f_X11_jail_116 4096 (mG (mE N (nI n) Dd Qq') (mE N (nI n) Dd Qq').2.2.2.2.2.2.2.2.2.2.2.2.2.2.2.2.2.2.2.2.1) 0 ∧ ∀ i, i < n → Qq' i = N.2.2.2.2.2.2.2.2.2.2.2.2.2.2.2.2.2.1 i := by
  refine loop_up (fun f (Qq : Nat → Int32) v2 => f_X11_jail_73 f (mE N (nI n) Dd Qq) v2) n (fun t Qq => ∀ i, i < t → Qq i = N.2.2.2.2.2.2.2.2.2.2.2.2.2.2.2.2.2.1 i) (fun p => ∃ Qq', p = f_X11_jail_116 4096 (mG (mE N (nI n) Dd Qq') (mE N (nI n) Dd Qq').2.2.2.2.2.2.2.2.2.2.2.2.2.2.2.2.2.2.2.2.1) 0 ∧ ∀ i, i < n → Qq' i = N.2.2.2.2.2.2.2.2.2.2.2.2.2.2.2.2.2.1 i) ?_ ?_ 4096 0 Qq (Nat.zero_le _) (fun i h => by omega) (by omega)
  · rintro f Qq h
    refine ⟨Qq, ?_, h⟩
    show f_X11_jail_73 (f + 1) (mE N (nI n) Dd Qq) (nI n) = _
    rw [f_X11_jail_73, if_pos (show (mE N (nI n) Dd Qq).2.2.2.2.2.2.2.2.2.2.1 ≤ nI n from nI_le (Nat.le_refl _) (by omega))]
    exact congrArg (fun Z : VX11 => f_X11_jail_116 4096 Z 0) (mG_id (mE N (nI n) Dd Qq))
  · rintro f Qq x hx h
    right
    refine ⟨upd Qq x (N.2.2.2.2.2.2.2.2.2.2.2.2.2.2.2.2.2.1 x), fun i hi => ?_, ?_⟩
    · rw [upd_at]
      by_cases c : i = x
      · rw [if_pos c, c]
      · rw [if_neg c]; exact h i (by omega)
    · show f_X11_jail_73 (f + 1) (mE N (nI n) Dd Qq) (nI x) = _
      rw [f_X11_jail_73, if_neg (show ¬ (mE N (nI n) Dd Qq).2.2.2.2.2.2.2.2.2.2.1 ≤ nI x from nI_ge hx (by omega)), zIn_t (show x < 8 by omega) (by decide), if_pos rfl, if_pos rfl, nI_clamp (by omega), nI_1]
      exact congrArg (fun Z : VX11 => f_X11_jail_73 f Z (nI (x + 1))) (mE_q N (nI n) Dd Qq x (N.2.2.2.2.2.2.2.2.2.2.2.2.2.2.2.2.2.1 x))
theorem m_jail116 (K : VX11) (ko : Nat → Int32) : ∃ ko', f_X11_jail_116 4096 (mG K ko) 0 = some (K.2.2.2.2.2.2.2.2.2.2.1, mG K ko') ∧ ∀ i, i < 3 → ko' i = -1 := by
  refine loop_up (fun f (ko : Nat → Int32) v2 => f_X11_jail_116 f (mG K ko) v2) 3 (fun t ko => ∀ i, i < t → ko i = -1) (fun p => ∃ ko', p = some (K.2.2.2.2.2.2.2.2.2.2.1, mG K ko') ∧ ∀ i, i < 3 → ko' i = -1) ?_ ?_ 4096 0 ko (Nat.zero_le _) (fun i h => by omega) (by omega)
  · rintro f ko h
    refine ⟨ko, ?_, h⟩
    show f_X11_jail_116 (f + 1) (mG K ko) (nI 3) = _
    rw [f_X11_jail_116, if_pos (by decide)]; rfl
  · rintro f ko x hx h
    right
    refine ⟨upd ko x (-1), fun i hi => ?_, ?_⟩
    · rw [upd_at]
      by_cases c : i = x
      · rw [if_pos c]
      · rw [if_neg c]; exact h i (by omega)
    · show f_X11_jail_116 (f + 1) (mG K ko) (nI x) = _
      rw [f_X11_jail_116, if_neg (show ¬ (3 : Int32) ≤ nI x from nI_ge hx (by decide)), zIn_t hx (by decide), if_pos rfl, nI_clamp (by omega), nI_1]
      exact congrArg (fun Z : VX11 => f_X11_jail_116 f Z (nI (x + 1))) (mG_k K ko x (-1))
theorem x1_clear (E : VX1) : ∃ o f, f_X1_clear E = some ((o, f, 0, 0)) ∧ ∀ i, i < 3 → o i = -1 := by
  unfold f_X1_clear f_X1_allIn f_X1_dropKept
  rw [Option.bind_some]
  have main : ∃ o f, f_X1_dropKept_2 4096 ((E.1, E.2.1, 0, 0)) 0 = some ((o, f, 0, 0)) ∧ ∀ i, i < 3 → o i = -1 := by
    refine loop_up (fun n (σ : (Nat → Int32) × (Nat → Int32)) v1 => f_X1_dropKept_2 n ((σ.1, σ.2, 0, 0)) v1) 3 (fun t σ => ∀ i, i < t → σ.1 i = -1) (fun p => ∃ o f, p = some ((o, f, 0, 0)) ∧ ∀ i, i < 3 → o i = -1) ?_ ?_ 4096 0 (E.1, E.2.1) (Nat.zero_le _) (fun i h => by omega) (by omega)
    · rintro n ⟨o, f⟩ h
      refine ⟨o, f, ?_, h⟩
      show f_X1_dropKept_2 (n + 1) ((o, f, 0, 0)) (nI 3) = _
      rw [f_X1_dropKept_2, if_pos (by decide)]
    · rintro n ⟨o, f⟩ x hx h
      right
      have h : ∀ i, i < x → o i = -1 := h
      refine ⟨(upd o x (-1), upd f x 0), fun i hi => ?_, ?_⟩
      · show upd o x (-1) i = -1
        rw [upd_at]
        by_cases c : i = x
        · rw [if_pos c]
        · rw [if_neg c]; exact h i (by omega)
      · show f_X1_dropKept_2 (n + 1) ((o, f, 0, 0)) (nI x) = _
        rw [f_X1_dropKept_2, if_neg (show ¬ (3 : Int32) ≤ nI x from nI_ge hx (by decide)), zIn_t hx (by decide), if_pos rfl, if_pos rfl, nI_clamp (by omega), nI_1]
  obtain ⟨o, f, e, h⟩ := main
  exact ⟨o, f, by rw [e, Option.bind_some], h⟩
section
variable {S : VX10} {M : VX11}
theorem st_fault (hR : RR S M) (v1 : Int32) : ∃ r : Int32, ∃ S2 : VX10, ∃ M2 : VX11, f_X10_fault S v1 = some (r, S2) ∧ f_X11_fault M v1 = some (r, M2) ∧ RR S2 M2 := by
  unfold f_X10_fault f_X11_fault
  rcases rr_textC hR v1 with h | ⟨r, hr, rfl, e1, e2⟩ | ⟨r, k, hr, rfl, hk, e1, e2, e3⟩
  · exact ⟨-1, S, M, by rw [x10_textF h] <;> rfl, by rw [m_textF h] <;> rfl, hR⟩
  · refine ⟨-3, _, _, by rw [x10_textN hr e1] <;> rfl, ?_, hR.found (f := 1) (by decide) (by decide)⟩
    rw [m_textT hr, Option.bind_some, if_neg i10, zIn_t hr (by decide), if_pos rfl, nI_clamp (by omega), e2, if_neg m_neg, show f_X11_meets M 1 = _ from m_meets M (f := 1) (by decide)] <;> rfl
  rw [x10_textT hr hk e1, Option.bind_some, if_pos rfl, m_textT hr, Option.bind_some, if_neg i10, zIn_t hr (by decide), if_pos rfl, nI_clamp (by omega), e2, if_pos (nI_pos' (by omega))]
  obtain ⟨hT, hr6, ht, a, ⟨hV, hJ, hM⟩, hE, hZ⟩ := id hR
  obtain ⟨res, R', at', num', cells', D', Q', b1, b2, -⟩ := read_both (Z := S.2.2.1) (M := M) ⟨hr, hk, e1, e2, e3⟩ S.2.2.2.1
  obtain ⟨⟨w1, w2, w3, w4, w5⟩, ⟨w6, w7⟩, ⟨w8, w9⟩, ⟨w10, w11, w12, w13⟩, w14, w15, w16⟩ := Rest.mP M at' num' cells' D' Q'
  refine ⟨res, (S.1, S.2.1, S.2.2.1, R', S.2.2.2.2.1, S.2.2.2.2.2.1, S.2.2.2.2.2.2.1, S.2.2.2.2.2.2.2.1, S.2.2.2.2.2.2.2.2.1, S.2.2.2.2.2.2.2.2.2), mP M at' num' cells' D' Q', ?_, ?_, rr_told.of hT w1 w2 w3 w4 w5, rr_rows.of hr6 w6 w7, rr_texts.of ht w8 w9, a, ⟨hV, hJ, hM.mP at' num' cells' D' Q'⟩, rr_even.of hE w10 w11 w12 w13, rr_seen.of hZ w14 w15 w16⟩
  · rw [show f_X5_read ((0 : Int32), S).2.2.2.2.1 ((0 : Int32), S).2.2.2.1 (nI r) = _ from b1, Option.bind_some]
  · rw [b2, Option.bind_some]
theorem st_jail (hR : RR S M) (v1 : Int32) : ∃ r : Int32, ∃ S2 : VX10, ∃ M2 : VX11, f_X10_jail S v1 = some (r, S2) ∧ f_X11_jail M v1 = some (r, M2) ∧ RR S2 M2 := by
  unfold f_X10_jail f_X11_jail
  rcases rr_textC hR v1 with h | ⟨r, hr, rfl, e1, e2⟩ | ⟨r, k, hr, rfl, hk, e1, e2, e3⟩
  · exact ⟨-1, S, M, by rw [x10_textF h] <;> rfl, by rw [m_textF h] <;> rfl, hR⟩
  · refine ⟨-3, _, _, by rw [x10_textN hr e1] <;> rfl, ?_, hR.found (f := 1) (by decide) (by decide)⟩
    rw [m_textT hr, Option.bind_some, if_neg i10, zIn_t hr (by decide), if_pos rfl, nI_clamp (by omega), e2, if_neg m_neg, show f_X11_meets M 1 = _ from m_meets M (f := 1) (by decide)] <;> rfl
  rw [x10_textT hr hk e1, Option.bind_some, if_pos rfl, m_textT hr, Option.bind_some, if_neg i10, zIn_t hr (by decide), if_pos rfl, nI_clamp (by omega), e2, if_pos (nI_pos' (by omega))]
  obtain ⟨hT, hr6, ht, a, ⟨hV, hJ, hM⟩, hE, hZ⟩ := id hR
  obtain ⟨res, R', at', num', cells', D', Q', b1, b2, b3⟩ := read_both (Z := S.2.2.1) (M := M) ⟨hr, hk, e1, e2, e3⟩ S.2.2.2.1
  rw [show f_X5_read ((0 : Int32), S).2.2.2.2.1 ((0 : Int32), S).2.2.2.1 (nI r) = _ from b1, Option.bind_some, b2, Option.bind_some]
  rcases b3 with ⟨j, hj, rfl⟩ | ⟨rfl, a', rfl, -, -, hV', h2', hJ', hR'⟩
  · obtain ⟨⟨w1, w2, w3, w4, w5⟩, ⟨w6, w7⟩, ⟨w8, w9⟩, ⟨w10, w11, w12, w13⟩, w14, w15, w16⟩ := Rest.mP M at' num' cells' D' Q'
    refine ⟨-4, (S.1, S.2.1, S.2.2.1, R', S.2.2.2.2.1, S.2.2.2.2.2.1, S.2.2.2.2.2.2.1, S.2.2.2.2.2.2.2.1, S.2.2.2.2.2.2.2.2.1, S.2.2.2.2.2.2.2.2.2), mP M at' num' cells' D' Q', ?_, ?_, rr_told.of hT w1 w2 w3 w4 w5, rr_rows.of hr6 w6 w7, rr_texts.of ht w8 w9, a, ⟨hV, hJ, hM.mP at' num' cells' D' Q'⟩, rr_even.of hE w10 w11 w12 w13, rr_seen.of hZ w14 w15 w16⟩
    · rw [if_neg (show ¬ ((nI j, R') : Int32 × VX5).1 = -9 from nI_m9 (by omega))]
    · rw [if_neg (show ¬ ((nI j, mP M at' num' cells' D' Q') : Int32 × VX11).1 = -9 from nI_m9 (by omega))]
  · have hn := hV'.2.1
    obtain ⟨J', j1, j2⟩ := x2_become S.2.2.2.2.1 hJ' hV'
    obtain ⟨eo, ef, c1, c2⟩ := x1_clear S.2.2.2.2.2.1
    obtain ⟨m, cw, cb, hm8, z1, -⟩ := hZ
    obtain ⟨Dd, d1, d2⟩ := m_jail47 (mP M at' num' (nI (aN a')) D' Q') (nI (aN a')) (mP M at' num' (nI (aN a')) D' Q').2.2.2.2.2.2.2.2.2.2.2.1 (mP M at' num' (nI (aN a')) D' Q').2.2.2.2.2.2.2.2.2.2.2.2.1
    obtain ⟨Qq, q1, q2⟩ := m_jail73 (mP M at' num' (nI (aN a')) D' Q') hn Dd (mP M at' num' (nI (aN a')) D' Q').2.2.2.2.2.2.2.2.2.2.2.2.1
    obtain ⟨ko, k1, k2⟩ := m_jail116 (mE (mP M at' num' (nI (aN a')) D' Q') (nI (aN a')) Dd Qq) (mE (mP M at' num' (nI (aN a')) D' Q') (nI (aN a')) Dd Qq).2.2.2.2.2.2.2.2.2.2.2.2.2.2.2.2.2.2.2.2.1
    have e7 : f_X7_dropFrom S.2.2.2.2.2.2.2.2.2 0 = some (nI m, (S.2.2.2.2.2.2.2.2.2.1, S.2.2.2.2.2.2.2.2.2.2.1, 0)) := by
      unfold f_X7_dropFrom
      rw [if_neg (by decide), z1, show nI m - 0 = nI m from pk_sub (a := m) (b := 0) (Nat.zero_le m), if_pos (nI_pos' (by omega))]
    refine ⟨nI (aN a'), (S.1, S.2.1, S.2.2.1, R', J', ((eo, ef, 0, 0)), S.2.2.2.2.2.2.1, S.2.2.2.2.2.2.2.1, S.2.2.2.2.2.2.2.2.1, ((S.2.2.2.2.2.2.2.2.2.1, S.2.2.2.2.2.2.2.2.2.2.1, 0))), mG (mE (mP M at' num' (nI (aN a')) D' Q') (nI (aN a')) Dd Qq) ko, ?_, ?_, rr_told.of hT rfl rfl rfl rfl rfl, rr_rows.of hr6 rfl rfl, rr_texts.of ht rfl rfl, a', ⟨hV', j2, rfl, fun x hx => ?_⟩, ⟨⟨0, Nat.two_pow_pos _, rfl, rfl⟩, rfl, fun i hi => ⟨(c2 i hi).trans (k2 i hi).symm, Or.inl (k2 i hi)⟩⟩, ⟨0, fun _ => 0, fun _ => false, Nat.zero_le _, rfl, rfl, fun i h => by omega⟩⟩
    · rw [if_pos (show (((-9 : Int32), R') : Int32 × VX5).1 = -9 from rfl), show f_X5_draft ((-9 : Int32), R').2 = some () from rfl, Option.bind_some, show f_X2_become ((0 : Int32), S).2.2.2.2.2.1 ((-9 : Int32), R').2.1 = _ from j1, Option.bind_some, show f_X1_clear ((0 : Int32), S).2.2.2.2.2.2.1 = _ from c1, Option.bind_some, show f_X7_dropFrom ((0 : Int32), S).2.2.2.2.2.2.2.2.2.2 0 = _ from e7, Option.bind_some, show f_X2_cells J' = some (nI (aN a')) from congrArg some j2.1, Option.bind_some]
    · rw [if_pos (show (((-9 : Int32), mP M at' num' (nI (aN a')) D' Q') : Int32 × VX11).1 = -9 from rfl)]
      exact (congrArg (fun Z : VX11 => f_X11_jail_47 4096 Z 0) (mE_id (mP M at' num' (nI (aN a')) D' Q') (nI (aN a')))).trans (d1.trans (q1.trans k1))
    · obtain ⟨g1, g2, g3, g4, g5⟩ := hR' x hx
      have hx : x < aN a' := hx
      exact ⟨(d2 (4 * x) (by omega)).trans g1, (d2 (4 * x + 1) (by omega)).trans g2, (d2 (4 * x + 2) (by omega)).trans g3, (d2 (4 * x + 3) (by omega)).trans g4, (q2 x hx).trans g5⟩
end
