/-! pure: forecasts, and ticks that pass -/
/-- a world's copy -/
def Cpy (σ1 σ : MS) : Prop := (∀ i, σ1 1 i = σ 1 0) ∧ σ1 2 0 = σ 2 0 ∧ ∀ c, c = 3 ∨ (5 ≤ c ∧ c ≤ 13) → σ1 c = σ c
theorem WI.cpy {τ σ σ1 : MS} {B T : Int} (h : WI B T τ σ) (hc : Cpy σ1 σ) : WI B T τ σ1 := by
  obtain ⟨h1, h2, h3⟩ := hc
  obtain ⟨b1, b2, b3, b4⟩ := h
  refine ⟨fun k hk => by rw [h3 3 (by decide)]; exact b1 k hk, fun j hj => ⟨fun t t1 t2 => ?_, ?_⟩, by rw [h1]; exact b3, fun i => by rw [h1, h1]⟩
  · rw [h3 10 (by decide), h3 9 (by decide), h3 12 (by decide), h1]
    exact (b2 j hj).1 t t1 t2
  · have := (b2 j hj).2
    unfold LJ at this ⊢
    rw [h3 5 (by decide), h3 6 (by decide), h3 8 (by decide), h3 9 (by decide)]
    exact this
section FC
variable {τ σ : MS} {w : Nat → Int32} {μ0 μ : MS} {F s j k : Nat} {p v : Int32} {B T U : Int} {st : MS → Bool}
end FC
theorem copyFrom_c (F : Nat) (σo σ : MS) : ∃ σ1, mX2_copyFrom F σo σ = some σ1 ∧ Cpy σ1 σo ∧ σ1 4 = fun _ => 1000000 := by
  refine ⟨_, rfl, ⟨fun _ => rfl, rfl, fun c hc => ?_⟩, rfl⟩
  rcases (show c = 3 ∨ c = 5 ∨ c = 6 ∨ c = 7 ∨ c = 8 ∨ c = 9 ∨ c = 10 ∨ c = 11 ∨ c = 12 ∨ c = 13 by omega) with rfl | rfl | rfl | rfl | rfl | rfl | rfl | rfl | rfl | rfl <;> rfl
section FP
variable {F : Nat} {B : Int}
theorem gC_10 {sid : PA} {n : Nat} (h : ∀ v, v < 10 → sid v < n) : gC 1 0 sid n = some () := by
  unfold gC
  rw [if_pos ⟨by decide, by decide, by decide, h 1 (by decide), h 0 (by decide)⟩]
theorem gW_u {sid : PA} {n x : Nat} (h : ∀ v, v < 10 → sid v < n) (w : Nat) (hw : w < 10) : gW (va_up sid 1 (sid 0)) n w = some () := by
  refine gW_at hw ?_
  unfold va_up
  split
  · exact h 0 (by decide)
  · exact h w hw
theorem in_nI {i : Int32} {lo hi : Int32} {a b : Nat} (hlo : lo = nI a) (hhi : hi = nI b) (ha : a < 2 ^ 31) (hb : b < 2 ^ 31) (h1 : ¬ i < lo) (h2 : ¬ hi < i) : ∃ q : Nat, a ≤ q ∧ q ≤ b ∧ i = nI q := by
  subst hlo hhi
  rw [ltI, nI_toInt ha] at h1
  rw [ltI, nI_toInt hb] at h2
  refine ⟨nv i, ?_, ?_, nI_nv (by omega)⟩ <;> unfold nv <;> omega
end FP

