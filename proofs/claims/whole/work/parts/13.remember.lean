/-! pure: rows copied, worlds remembered -/
def cpf (f0 f1 : FS) : FS := fo (fun k f => upd f k (f0 k)) 0 451 f1
theorem cpf_fo (f0 : FS) : ∀ (n a : Nat) (f : FS) (x : Nat), fo (fun k f => upd f k (f0 k)) a n f x = if a ≤ x ∧ x < a + n then f0 x else f x := by
  intro n
  induction n with
  | zero => intro a f x; rw [if_neg (by omega)]; rfl
  | succ n ih =>
    intro a f x
    show fo (fun k f => upd f k (f0 k)) (a + 1) n (upd f a (f0 a)) x = _
    rw [ih]
    by_cases hx : x = a
    · subst hx
      rw [if_neg (by omega), if_pos (by omega)]
      simp [upd]
    · have hu : upd f a (f0 a) x = f x := by simp [upd, hx]
      rw [hu]
      by_cases h : a + 1 ≤ x ∧ x < a + 1 + n
      · rw [if_pos h, if_pos (by omega)]
      · rw [if_neg h, if_neg (by omega)]
theorem cpf_at (f0 f1 : FS) (x : Nat) (h : x < 451) : cpf f0 f1 x = f0 x := by
  unfold cpf
  rw [cpf_fo, if_pos (by omega)]
theorem nI_leq (c k : Nat) (h : c < 100000) (h2 : k < 100000) : (nI c ≤ nI k) ↔ c ≤ k := by
  rw [Int32.le_iff_toInt_le, show (nI c).toInt = c from Int32.toInt_ofNat_of_lt (by omega), show (nI k).toInt = k from Int32.toInt_ofNat_of_lt (by omega)]
  omega
theorem copy_eq {F : Nat} (hF : 452 ≤ F) (f0 f1 : FS) : mX4_copy F f0 f1 = some (cpf f0 f1) := by
  have hl := loop_up (f := fun st : Int32 × FS => mX4_copy_L2 F f0 st.1 st.2) (fun _ _ => True) (fun k f => upd f k (f0 k)) (fun f => f) 451 (fun k x hk _ => ⟨by
    show mX4_copy_L2 F f0 (nI k) x = _
    unfold mX4_copy_L2
    rw [if_neg (show ¬ (451 : Int32) ≤ nI k from fun h => absurd ((nI_leq 451 k (by omega) (by omega)).mp h) (by omega)), rd_at hk (by decide), ob1_e, wr_at hk (by decide), ob1_e, nI_s], trivial⟩) (fun x _ => by
    show mX4_copy_L2 F f0 (nI 451) x = _
    unfold mX4_copy_L2
    rw [if_pos (by decide)]) 451 0 F f1 (by omega) (by omega) trivial
  unfold mX4_copy
  show ob1 (loopM _ F (nI 0, f1)) _ = _
  rw [hl]
  rfl
theorem hix_at {j : Nat} (h : j < 8) : hix (nI j) = some j := by
  have : ∀ j : Nat, j < 8 → hix (nI j) = some j := by decide +kernel
  exact this j h
theorem hix_pred {j : Nat} (h1 : 1 ≤ j) (h : j < 8) : hix (nI j - 1) = some (j - 1) := by
  have : ∀ j : Nat, j < 8 → 1 ≤ j → hix (nI j - 1) = some (j - 1) := by decide +kernel
  exact this j h h1
/-- the reference's rows moved down by one -/
def mgr (k : Nat) (μ : MS) : MS := va_up μ (20 + (k - 1)) (cpf (μ (20 + k)) (μ (20 + (k - 1))))
theorem mgr_fo : ∀ (n a : Nat) (μ : MS), 1 ≤ a → (∀ j, a - 1 ≤ j → j < a - 1 + n → ∀ x, x < 451 → fo mgr a n μ (20 + j) x = μ (20 + (j + 1)) x) ∧ ∀ c, (c < 20 + (a - 1) ∨ 20 + (a - 1) + n ≤ c) → fo mgr a n μ c = μ c := by
  intro n
  induction n with
  | zero => intro a μ _; exact ⟨fun j h1 h2 => absurd h2 (by omega), fun c _ => rfl⟩
  | succ n ih =>
    intro a μ ha
    obtain ⟨h1, h2⟩ := ih (a + 1) (mgr a μ) (by omega)
    refine ⟨fun j hj1 hj2 x hx => ?_, fun c hc => ?_⟩
    · show fo mgr (a + 1) n (mgr a μ) (20 + j) x = _
      by_cases hj : j = a - 1
      · rw [h2 (20 + j) (by omega), hj]
        unfold mgr
        rw [va_up_self, cpf_at _ _ _ hx, show a - 1 + 1 = a by omega]
      · rw [h1 j (by omega) (by omega) x hx]
        unfold mgr
        rw [va_up_ne _ _ (by omega)]
    · show fo mgr (a + 1) n (mgr a μ) c = _
      rw [h2 c (by omega)]
      unfold mgr
      rw [va_up_ne _ _ (by omega)]
theorem shift_eq {F : Nat} (hF : 452 ≤ F) (μ : MS) : loopM (fun st : Int32 × MS => mX4_remember_L11 F st.1 st.2) F ((1 : Int32), μ) = some (fo mgr 1 7 μ) := by
  have hl := loop_up (f := fun st : Int32 × MS => mX4_remember_L11 F st.1 st.2) (fun k _ => 1 ≤ k) mgr (fun μ => μ) 8 (fun k μ hk h1 => ⟨by
    show mX4_remember_L11 F (nI k) μ = _
    unfold mX4_remember_L11
    rw [if_neg (show ¬ (8 : Int32) ≤ nI k from fun h => absurd ((nI_leq 8 k (by omega) (by omega)).mp h) (by omega)), hix_at hk, ob1_e, hix_pred h1 hk, ob1_e, if_neg (by omega), copy_eq hF, ob1_e, ob1_e, nI_s]
    rfl, by omega⟩) (fun μ _ => by
    show mX4_remember_L11 F (nI 8) μ = _
    unfold mX4_remember_L11
    rw [if_pos (by decide)]) 7 1 F μ (by omega) (by omega) (by omega)
  exact hl
