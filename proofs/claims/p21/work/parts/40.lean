/-! pure: pass and restock -/
theorem ob4_e {α β δ ε γ : Type} (x : α) (y : β) (z : δ) (w : ε) (f : α → β → δ → ε → Option γ) : ob4 (some (x, y, z, w)) f = f x y z w := rfl
section PP
variable {F : Nat} {B B' : Int}
theorem c_ended2 {τ σ : MS} (hI : SI τ) (hF : 5000 ≤ F) : mX2_endedJourneys F τ σ = some (jin τ σ 3 + jin τ σ 4) := by
  unfold mX2_endedJourneys
  rw [c_jin hI hF, ob1_e, c_jin hI hF, ob1_e]
end PP

