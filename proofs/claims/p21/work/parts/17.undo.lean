/-! pure: undo -/
theorem nI_p {u : Nat} (h : 1 ≤ u) : nI u - 1 = nI (u - 1) := by
  obtain ⟨k, rfl⟩ : ∃ k, u = k + 1 := ⟨u - 1, by omega⟩
  rw [← nI_s, Nat.add_sub_cancel]
  simp
