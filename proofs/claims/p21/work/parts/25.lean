/-! pure: the last step that is done, on the reference's side; what the numbers tell -/
theorem loop_d1 {f : Int32 → Option (Int32 ⊕ Int32)} {P : Nat → Bool} {b : Nat} (hs : ∀ m, m < b → f (nI (m + 1) - 1) = some (if P m then .inl (nI m) else .inr (nI m - 1))) (hx : f (nI 0 - 1) = some (.inl (-1))) : ∀ (n fu : Nat), n ≤ b → n < fu → loopM f fu (nI n - 1) = some (oI (lst P 0 n 0)) := by
  intro n
  induction n with
  | zero =>
    intro fu h1 h2
    obtain ⟨fu, rfl⟩ : ∃ k, fu = k + 1 := ⟨fu - 1, by omega⟩
    rw [loopM_l hx]; rfl
  | succ n ih =>
    intro fu h1 h2
    obtain ⟨fu, rfl⟩ : ∃ k, fu = k + 1 := ⟨fu - 1, by omega⟩
    have hs1 := hs n (by omega)
    unfold lst
    rw [Nat.zero_add]
    by_cases hP : P n = true
    · rw [if_pos hP] at hs1
      rw [loopM_l hs1, if_pos hP, if_pos rfl]; rfl
    · rw [if_neg hP] at hs1
      rw [loopM_r hs1, if_neg hP]
      exact ih fu (by omega) (by omega)
theorem m1_lt0 : (nI 0 - 1 : Int32) < 0 := by decide
theorem nI_nl0 {m : Nat} (h : m < 2 ^ 31) : ¬ nI m < (0 : Int32) := fun q => absurd ((nI_ltI (b := 0) h (by omega)).mp q) (by omega)
section CO
variable {τ σ : MS} {w : Nat → Int32} {μ0 μ : MS} {F s j : Nat} {k p : Int32}
theorem lsd_sh (τ σ : MS) (j q : Nat) : lst (fun i => decide (σ 9 (An τ j + i) = 3)) 0 (En τ j - An τ j) q = (lsd τ σ j q).map (fun s => s - An τ j) := by
  have := lst_sh (fun s => decide (σ 9 s = 3)) (An τ j) 0 (En τ j - An τ j) q
  rw [Nat.add_zero] at this
  exact this
theorem c_rests (hI : SI τ) (hj : j < Jn τ) (hb : bd (σ 5 j) 0 5) : mX2_rests F τ σ (nI j) = some (b01 (decide ((3 : Int32) ≤ σ 5 j))) := by
  unfold mX2_rests
  rw [c_ended hI hj, ob1_e]
  simp only [r8 hI hj, ob1_e]
  obtain ⟨e, h1, h2⟩ := hb.nI (by decide)
  have : ∀ n : Nat, n ≤ 5 → ((ob1 (ob1 (if b01 (decide (nI n = 3 ∨ nI n = 4)) = 0 then if nI n = 5 then some true else some false else some true) fun t7 => cnd t7 (some (1 : Int32)) (some 0)) fun v3 => some v3) = some (b01 (decide ((3 : Int32) ≤ nI n)))) := by decide +kernel
  unfold ended
  rw [e]
  exact this _ (by omega)
theorem c_stepsOf (hI : SI τ) (hj : j < Jn τ) : mX0_stepsOf F τ (nI j) = some (nI (En τ j - An τ j)) := by
  have hA := hI.A hj
  unfold mX0_stepsOf
  rw [rE hI hj, ob1_e, rA hI hj, ob1_e, nI_d (by omega)]
end CO

