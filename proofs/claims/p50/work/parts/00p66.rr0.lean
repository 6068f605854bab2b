/-! where it starts -/
theorem x1_drop0 : ∃ o f, f_X1_dropKept ((fun _ => 0), (fun _ => 0), 0, 0) = some (o, f, 0, 0) ∧ ∀ i, i < 3 → o i = -1 := by
  obtain ⟨o, f, e, h⟩ := x1_clear ((fun _ => 0), (fun _ => 0), 0, 0)
  refine ⟨o, f, ?_, h⟩
  have e2 : (f_X1_dropKept ((fun _ => 0), (fun _ => 0), 0, 0)).bind some = some (o, f, 0, 0) := e
  cases hd : f_X1_dropKept ((fun _ => 0), (fun _ => 0), 0, 0) with
  | none => rw [hd] at e2; cases e2
  | some E => rw [hd] at e2; exact e2
theorem rr0_of {E : VX1} (hE : f_X1_dropKept ((fun _ => 0), (fun _ => 0), 0, 0) = some E) : RR (((fun _ => 0), 0, 0, 1, 0), ((fun _ _ => 0), (upd (upd (upd (upd (upd (upd (fun _ => 0) 0 (-1)) 1 (-1)) 2 (-1)) 3 (-1)) 4 (-1)) 5 (-1))), ((fun _ _ => 0), (upd (upd (upd (upd (fun _ => 0) 0 (-1)) 1 (-1)) 2 (-1)) 3 (-1))), (((fun _ => 0), (fun _ => 0), (fun _ => 0), (fun _ => 0), (fun _ => 0), 0, 0, 0), (fun _ => 0), 0, 0, 0), ((fun _ => 0), (fun _ => 0), (fun _ => 0), (fun _ => 0), (fun _ => 0), 0, 0, 0), E, ((fun _ => 0), 0), ((fun _ => 0), (fun _ => 0), (fun _ => 0), (fun _ => 0)), (((fun _ => 0), (fun _ => 0), (fun _ => 0), (fun _ => 0), (fun _ => 0), 0, 0, 0), ((fun _ => 0), 0), (fun _ => 0), (fun _ => 0)), ((fun _ => 0), (fun _ => 0), 0)) (0, (fun _ => 0), 0, 0, 1, (upd (upd (upd (upd (upd (upd (fun _ => 0) 0 (-1)) 1 (-1)) 2 (-1)) 3 (-1)) 4 (-1)) 5 (-1)), (fun _ => 0), (fun _ => 0), (upd (upd (upd (upd (fun _ => 0) 0 (-1)) 1 (-1)) 2 (-1)) 3 (-1)), (fun _ => 0), 0, (fun _ => 0), (fun _ => 0), 0, 0, 0, (fun _ => 0), (fun _ => 0), 0, 0, (upd (upd (upd (fun _ => 0) 0 (-1)) 1 (-1)) 2 (-1)), (fun _ => 0), (fun _ => 0), (fun _ => 0), (fun _ => 0), (fun _ => 0), (fun _ => 0), 0, (fun _ => 0), (fun _ => 0), 0) := by
  obtain ⟨o, f, e, h⟩ := x1_drop0
  rw [e] at hE
  cases hE
  refine ⟨⟨fun f _ _ => rfl, rfl, rfl, rfl, rfl⟩, fun r hr => ⟨rfl, Or.inl ?_⟩, fun r hr => ⟨rfl, Or.inl ?_⟩, aB 0, ⟨⟨Or.inl rfl, Nat.zero_le _, fun x hx => absurd hx (Nat.not_lt_zero x)⟩, ⟨rfl, rfl, rfl, fun x hx => absurd hx (Nat.not_lt_zero x)⟩, ⟨rfl, fun x hx => absurd hx (Nat.not_lt_zero x)⟩⟩, ⟨⟨0, Nat.two_pow_pos _, rfl, rfl⟩, rfl, fun k hk => ?_⟩, ⟨0, fun _ => 0, fun _ => false, Nat.zero_le _, rfl, rfl, fun i hi => absurd hi (Nat.not_lt_zero i)⟩⟩
  · show upd (upd (upd (upd (upd (upd (fun _ => 0) 0 (-1)) 1 (-1)) 2 (-1)) 3 (-1)) 4 (-1)) 5 (-1) r = (-1 : Int32)
    have hr : r = 0 ∨ r = 1 ∨ r = 2 ∨ r = 3 ∨ r = 4 ∨ r = 5 := by omega
    rcases hr with rfl | rfl | rfl | rfl | rfl | rfl <;> rfl
  · show upd (upd (upd (upd (fun _ => 0) 0 (-1)) 1 (-1)) 2 (-1)) 3 (-1) r = (-1 : Int32)
    have hr : r = 0 ∨ r = 1 ∨ r = 2 ∨ r = 3 := by omega
    rcases hr with rfl | rfl | rfl | rfl <;> rfl
  · have hq : upd (upd (upd (fun _ => 0) 0 (-1)) 1 (-1)) 2 (-1) k = (-1 : Int32) := by
      have hr : k = 0 ∨ k = 1 ∨ k = 2 := by omega
      rcases hr with rfl | rfl | rfl <;> rfl
    exact ⟨(h k hk).trans hq.symm, Or.inl hq⟩
