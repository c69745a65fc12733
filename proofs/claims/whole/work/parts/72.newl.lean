/-! the new objects as the worlds of the calls; the two agree at first -/
theorem R_new : R (fun _ _ => 0) (fun _ _ => 0) := by
  have c0 : ∀ k, cv (fun _ _ => 0) k = fun _ _ => 0 := fun k => by
    funext j
    unfold cv
    by_cases h : j < 8
    · rw [if_pos h]
    · rw [if_neg h]
  have l0 : lvM (fun _ _ => 0) = fun _ => 0 := by
    funext i
    unfold lvM
    repeat' split
    all_goals rfl
  have u0 : unl (fun _ => 0) = fun _ _ => 0 := by
    funext k i
    unfold unl
    repeat' split
    all_goals rfl
  have z0 : zC (fun _ _ => 0) := ⟨fun _ _ _ => rfl, fun _ _ => rfl⟩
  refine ⟨⟨⟨0, 0, ?_, ?_⟩, rfl⟩, fun k _ => by rw [c0]; exact z0, rfl, fun _ _ => rfl, ⟨0, by decide, nI_0.symm, nI_0.symm, fun _ h => absurd h (Nat.not_lt_zero _)⟩, ⟨0, by decide, nI_0.symm, nI_0.symm, fun _ h => absurd h (Nat.not_lt_zero _)⟩, Or.inl ⟨rfl, rfl⟩, ⟨0, 0, by decide, by decide, nI_0.symm, nI_0.symm, nI_0.symm, fun _ h => absurd h (Nat.not_lt_zero _)⟩⟩
  · rw [l0, u0, c0]
    exact ⟨⟨by decide, by decide, nI_0.symm, nI_0.symm, fun _ h => absurd h (Nat.not_lt_zero _), by decide, by decide⟩, fun _ _ _ h => absurd h (Nat.not_lt_zero _), nI_0.symm, nI_0.symm, rfl, fun _ h => absurd h (Nat.not_lt_zero _), fun _ _ _ h => absurd h (Nat.not_lt_zero _), fun _ h => absurd h (Nat.not_lt_zero _)⟩
  · rw [c0]
    exact ⟨z0, fun _ h => absurd h (Nat.not_lt_zero _), fun _ h => absurd h (Nat.not_lt_zero _), fun _ h => absurd h (Nat.not_lt_zero _), ⟨0, by decide, nI_0.symm⟩⟩
