/-! pure: the reference's tick, whole -/
theorem fo_keepR {α β : Type} {g : Nat → α → α} (q : α → β) {n a : Nat} {x : α} (h : ∀ s x, a ≤ s → s < a + n → q (g s x) = q x) : q (fo g a n x) = q x := by
  have := fo_ind (g := g) (fun _ y => q y = q x) (n := n) (a := a) (x := x) rfl (fun s y h1 h2 hy => (h s y h1 h2).trans hy)
  exact this
theorem step_j {τ σ : MS} {j s c i : Nat} (h1 : 5 ≤ c) (h2 : c ≤ 8) : stepF τ j s σ c i = σ c i := by
  unfold stepF takeF
  repeat' split
  all_goals first | rfl | (repeat rw [u2_n _ _ _ _ _ _ (by omega)])
theorem mv_j {τ σ : MS} {j s c i : Nat} (h1 : 5 ≤ c) (h2 : c ≤ 8) : mvF τ j s σ c i = σ c i := by
  unfold mvF
  split
  · exact step_j h1 h2
  · rfl
theorem wd_j {τ σ : MS} {j s c i : Nat} (h2 : c ≤ 8) : wdF τ j s σ c i = σ c i := by
  unfold wdF
  split
  · rw [u2_n _ _ _ _ _ _ (by omega)]
  · rfl
section MT
variable {τ σ : MS} {w : Nat → Int32} {μ0 μ : MS} {F s j k : Nat} {p v : Int32} {B : Int}
/-- withdrawing leaves what has failed -/
theorem with_4 {τ σ : MS} {j t : Nat} (h : σ 9 t = 4) : withF τ j σ 9 t = 4 := by
  unfold withF
  have := fo_ind (g := wdF τ j) (fun _ y => y 9 t = 4) (n := En τ j - An τ j) (a := An τ j) (x := σ) h (fun s y h1 h2 hy => by
    unfold wdF
    split
    · next q =>
      rw [u2_at]
      split
      · next q2 =>
        rw [Bool.and_eq_true, decide_eq_true_eq] at q
        rw [← q2.2, hy] at q
        exact absurd q.2 (by decide)
      · exact hy
    · exact hy)
  exact this
theorem over_not {τ σ : MS} {j : Nat} (h : stHas τ σ j 4 = true) : over τ σ j = false := by
  unfold stHas at h
  unfold over
  rw [exB_iff] at h
  obtain ⟨s, h1, h2, h3⟩ := h
  rw [Bool.and_eq_true, decide_eq_true_eq] at h3
  have : exB (fun s => prs τ σ j s && opn σ s) (An τ j) (En τ j - An τ j) = true := by
    rw [exB_iff]
    refine ⟨s, h1, h2, ?_⟩
    show (prs τ σ j s && opn σ s) = true
    rw [h3.1]
    unfold opn
    rw [h3.2]
    decide
  rw [this]; rfl
theorem stHas_with {τ σ : MS} {j : Nat} (h : stHas τ σ j 4 = true) : stHas τ (withF τ j σ) j 4 = true := by
  unfold stHas at h ⊢
  rw [exB_iff] at h ⊢
  obtain ⟨s, h1, h2, h3⟩ := h
  refine ⟨s, h1, h2, ?_⟩
  rw [Bool.and_eq_true, decide_eq_true_eq] at h3 ⊢
  have e6 : withF τ j σ 6 j = σ 6 j := fo_keep (fun x : MS => x 6 j) (fun s x => wd_j (by decide)) _ _ σ
  refine ⟨?_, with_4 h3.2⟩
  unfold prs
  rw [e6]
  exact h3.1
end MT

