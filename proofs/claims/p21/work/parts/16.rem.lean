/-! pure: both remember alike -/
theorem copyFrom_eq (F : Nat) (σo σ : MS) : ∃ σ1, mX2_copyFrom F σo σ = some σ1 ∧ (∀ i, σ1 1 i = σo 1 0) ∧ σ1 2 0 = σo 2 0 ∧ ∀ c, c = 3 ∨ (5 ≤ c ∧ c ≤ 13) → σ1 c = σo c := by
  refine ⟨_, rfl, fun _ => rfl, rfl, fun c hc => ?_⟩
  rcases (show c = 3 ∨ c = 5 ∨ c = 6 ∨ c = 7 ∨ c = 8 ∨ c = 9 ∨ c = 10 ∨ c = 11 ∨ c = 12 ∨ c = 13 by omega) with rfl | rfl | rfl | rfl | rfl | rfl | rfl | rfl | rfl | rfl <;> rfl
