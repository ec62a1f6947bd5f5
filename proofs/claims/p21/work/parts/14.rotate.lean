/-! pure: the class's past worlds moved down -/
def rot (k : Nat) (pa : PA) : PA := va_up pa (k - 1) (pa k)
theorem rot_fo : ∀ (n a : Nat) (pa : PA) (x : Nat), 1 ≤ a → fo rot a n pa x = if a - 1 ≤ x ∧ x < a - 1 + n then pa (x + 1) else pa x := by
  intro n
  induction n with
  | zero => intro a pa x _; rw [if_neg (by omega)]; rfl
  | succ n ih =>
    intro a pa x ha
    show fo rot (a + 1) n (rot a pa) x = _
    rw [ih (a + 1) (rot a pa) x (by omega)]
    unfold rot
    by_cases hx : x = a - 1
    · subst hx
      rw [if_neg (by omega), if_pos (by omega), va_up_self, show a - 1 + 1 = a by omega]
    · by_cases h : a + 1 - 1 ≤ x ∧ x < a + 1 - 1 + n
      · rw [if_pos h, if_pos (by omega), va_up_ne _ _ (by omega)]
      · rw [if_neg h, if_neg (by omega), va_up_ne _ _ hx]
theorem gW_at {sid : PA} {n w : Nat} (h1 : w < 10) (h2 : sid w < n) : gW sid n w = some () := by
  unfold gW
  rw [if_pos ⟨h1, h2⟩]
theorem rotate_eq {F : Nat} (hF : 9 ≤ F) {τs : WS} {n : Nat} {β : FS} {υ : MS} {ω : WS} {sid : PA} (pa : PA) (hp : ∀ j, j < 8 → pa j < 10) (hs : ∀ v, v < 10 → sid v < n) : loopM (fun st : Int32 × PA => mX3_remember_L18 F τs n β υ ω sid st.1 st.2) F ((1 : Int32), pa) = some (fo rot 1 7 pa) := by
  have hl := loop_up (f := fun st : Int32 × PA => mX3_remember_L18 F τs n β υ ω sid st.1 st.2) (fun k pa => 1 ≤ k ∧ ∀ j, j < 8 → pa j < 10) rot (fun pa => pa) 8 (fun k pa hk h1 => ⟨by
    show mX3_remember_L18 F τs n β υ ω sid (nI k) pa = _
    unfold mX3_remember_L18
    rw [if_neg (show ¬ (8 : Int32) ≤ nI k from fun h => absurd ((nI_leq 8 k (by omega) (by omega)).mp h) (by omega)), hix_at hk, ob1_e, gW_at (h1.2 k hk) (hs _ (h1.2 k hk)), ob1_e, hix_pred h1.1 hk, ob1_e, ob1_e, nI_s]
    rfl, by have := h1.1; omega, fun j hj => by
      unfold rot
      by_cases hjk : j = k - 1
      · rw [hjk, va_up_self]; exact h1.2 k hk
      · rw [va_up_ne _ _ hjk]; exact h1.2 j hj⟩) (fun pa _ => by
    show mX3_remember_L18 F τs n β υ ω sid (nI 8) pa = _
    unfold mX3_remember_L18
    rw [if_pos (by decide)]) 7 1 F pa (by omega) (by omega) ⟨by omega, hp⟩
  exact hl

