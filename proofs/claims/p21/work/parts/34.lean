/-! pure: the reference's journey goes on as the class's does -/
def overP (τ σ : MS) (j : Nat) (p : Int32) : Bool := !exB (fun s => decide (τ 11 s = p) && opn σ s) (An τ j) (En τ j - An τ j)
section MT
variable {τ σ : MS} {w : Nat → Int32} {μ0 μ : MS} {F s j k : Nat} {p v : Int32} {B : Int}
theorem cnt_0 (P : Nat → Bool) (a : Nat) : ∀ n, n ≤ 1000 → ∃ c : Nat, fo (fun s (x : Int32) => x + b01 (P s)) a n 0 = nI c ∧ c ≤ n ∧ (c = 0 ↔ exB P a n = false) := by
  intro n
  induction n with
  | zero => intro _; exact ⟨0, rfl, Nat.le_refl _, by simp [exB]⟩
  | succ n ih =>
    intro hn
    obtain ⟨c, h1, h2, h3⟩ := ih (by omega)
    rw [fo_end, h1]
    have e : exB P a (n + 1) = false ↔ exB P a n = false ∧ P (a + n) = false := by
      rw [exB_F, exB_F]
      constructor
      · intro h; exact ⟨fun s h1 h2 => h s h1 (by omega), h _ (by omega) (by omega)⟩
      · rintro ⟨h, h'⟩ s h1 h2
        by_cases q : s = a + n
        · subst q; exact h'
        · exact h s h1 (by omega)
    rw [e]
    cases hP : P (a + n) with
    | true => exact ⟨c + 1, by rw [← nI_s]; rfl, by omega, by simp⟩
    | false => exact ⟨c, by simp [b01], by omega, by simp [h3]⟩
theorem rdy_6 {c i : Nat} (hc : c < 9) : rdyF τ j s σ c i = σ c i := rdy_5 hc
end MT

