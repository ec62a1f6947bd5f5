/-! pure: rows copied, worlds remembered -/
def cpf (f0 f1 : FS) : FS := fo (fun k f => upd f k (f0 k)) 0 451 f1
theorem cpf_fo (f0 : FS) : ∀ (n a : Nat) (f : FS) (x : Nat), fo (fun k f => upd f k (f0 k)) a n f x = if a ≤ x ∧ x < a + n then f0 x else f x := by
  intro n
  induction n with
  | zero => intro a f x; rw [if_neg (by omega)]; rfl
  | succ n ih =>
    intro a f x
    show fo (fun k f => upd f k (f0 k)) (a + 1) n (upd f a (f0 a)) x = _
    rw [ih]
    by_cases hx : x = a
    · subst hx
      rw [if_neg (by omega), if_pos (by omega)]
      simp [upd]
    · have hu : upd f a (f0 a) x = f x := by simp [upd, hx]
      rw [hu]
      by_cases h : a + 1 ≤ x ∧ x < a + 1 + n
      · rw [if_pos h, if_pos (by omega)]
      · rw [if_neg h, if_neg (by omega)]
theorem cpf_at (f0 f1 : FS) (x : Nat) (h : x < 451) : cpf f0 f1 x = f0 x := by
  unfold cpf
  rw [cpf_fo, if_pos (by omega)]
theorem nI_leq (c k : Nat) (h : c < 100000) (h2 : k < 100000) : (nI c ≤ nI k) ↔ c ≤ k := by
  rw [Int32.le_iff_toInt_le, show (nI c).toInt = c from Int32.toInt_ofNat_of_lt (by omega), show (nI k).toInt = k from Int32.toInt_ofNat_of_lt (by omega)]
  omega
theorem hix_at {j : Nat} (h : j < 8) : hix (nI j) = some j := by
  have : ∀ j : Nat, j < 8 → hix (nI j) = some j := by decide +kernel
  exact this j h
theorem hix_pred {j : Nat} (h1 : 1 ≤ j) (h : j < 8) : hix (nI j - 1) = some (j - 1) := by
  have : ∀ j : Nat, j < 8 → 1 ≤ j → hix (nI j - 1) = some (j - 1) := by decide +kernel
  exact this j h h1
/-- the reference's rows moved down by one -/
def mgr (k : Nat) (μ : MS) : MS := va_up μ (20 + (k - 1)) (cpf (μ (20 + k)) (μ (20 + (k - 1))))
theorem mgr_fo : ∀ (n a : Nat) (μ : MS), 1 ≤ a → (∀ j, a - 1 ≤ j → j < a - 1 + n → ∀ x, x < 451 → fo mgr a n μ (20 + j) x = μ (20 + (j + 1)) x) ∧ ∀ c, (c < 20 + (a - 1) ∨ 20 + (a - 1) + n ≤ c) → fo mgr a n μ c = μ c := by
  intro n
  induction n with
  | zero => intro a μ _; exact ⟨fun j h1 h2 => absurd h2 (by omega), fun c _ => rfl⟩
  | succ n ih =>
    intro a μ ha
    obtain ⟨h1, h2⟩ := ih (a + 1) (mgr a μ) (by omega)
    refine ⟨fun j hj1 hj2 x hx => ?_, fun c hc => ?_⟩
    · show fo mgr (a + 1) n (mgr a μ) (20 + j) x = _
      by_cases hj : j = a - 1
      · rw [h2 (20 + j) (by omega), hj]
        unfold mgr
        rw [va_up_self, cpf_at _ _ _ hx, show a - 1 + 1 = a by omega]
      · rw [h1 j (by omega) (by omega) x hx]
        unfold mgr
        rw [va_up_ne _ _ (by omega)]
    · show fo mgr (a + 1) n (mgr a μ) c = _
      rw [h2 c (by omega)]
      unfold mgr
      rw [va_up_ne _ _ (by omega)]
