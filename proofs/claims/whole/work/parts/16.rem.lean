/-! pure: both remember alike -/
theorem copyFrom_eq (F : Nat) (σo σ : MS) : ∃ σ1, mX2_copyFrom F σo σ = some σ1 ∧ (∀ i, σ1 1 i = σo 1 0) ∧ σ1 2 0 = σo 2 0 ∧ ∀ c, c = 3 ∨ (5 ≤ c ∧ c ≤ 13) → σ1 c = σo c := by
  refine ⟨_, rfl, fun _ => rfl, rfl, fun c hc => ?_⟩
  rcases (show c = 3 ∨ c = 5 ∨ c = 6 ∨ c = 7 ∨ c = 8 ∨ c = 9 ∨ c = 10 ∨ c = 11 ∨ c = 12 ∨ c = 13 by omega) with rfl | rfl | rfl | rfl | rfl | rfl | rfl | rfl | rfl | rfl <;> rfl
/-- what a relation of one world may not look at -/
def WRs (WR : MS → MS → FS → Prop) : Prop := (∀ τ σ σ1 d, (∀ i, σ1 1 i = σ 1 0) → σ1 2 0 = σ 2 0 → (∀ c, c = 3 ∨ (5 ≤ c ∧ c ≤ 13) → σ1 c = σ c) → WR τ σ d → WR τ σ1 d) ∧ ∀ τ σ d d1, (∀ x, x < 451 → d1 x = d x) → WR τ σ d → WR τ σ d1
theorem rem_ok {F : Nat} (hF : 452 ≤ F) {WR : MS → MS → FS → Prop} (hW : WRs WR) {τs : WS} {n : Nat} {pa : PA} {β : FS} {υ : MS} {ω : WS} {sid : PA} {μ : MS} (hI : HI WR τs n pa β υ ω sid μ) : ∃ pa1 υ1 ω1 sid1 μ1, mX3_remember F τs n pa β υ ω sid = some (pa1, υ1, ω1, sid1) ∧ mX4_remember F μ = some μ1 ∧ HI WR τs n pa1 β υ1 ω1 sid1 μ1 ∧ ω1 0 = ω 0 ∧ sid1 0 = sid 0 ∧ (∀ q, q ≠ 6 → υ1 q = υ q) ∧ ∀ q, q < 12 → μ1 q = μ q := by
  obtain ⟨hbuf, herr, hs, hp, hi, hnow, u, hu, h6, h12, hpast⟩ := hI
  obtain ⟨pa1, υ1, u1, a1, a2, a3, a4, a5, a6, a7⟩ := room_c (F := F) (by omega) (τs := τs) (β := β) (ω := ω) hu h6 hp hi hs
  obtain ⟨μ1, u2, b1, b2, b3, b4, b5⟩ := room_m hF hu h12
  have hu12 : u2 = u1 := by rcases a7 with ⟨x1, x2, -⟩ | ⟨x1, x2, -⟩ <;> rcases b5 with ⟨y1, y2, -⟩ | ⟨y1, y2, -⟩ <;> omega
  subst hu12
  obtain ⟨σ1, c1, c2, c3, c4⟩ := copyFrom_eq F (ω 0) (ω (pa1 u2))
  have hv := a5 u2 a2
  have hgC : gC (pa1 u2) 0 sid n = some () := by
    unfold gC
    rw [if_pos ⟨hv.2, by decide, by omega, hs _ hv.2, hs 0 (by decide)⟩]
  have hm : ∀ q, q < 12 → pf (va_up μ1 (20 + u2) (cpf (μ1 8) (μ1 (20 + u2)))) 12 (nI u2 + 1) q = μ q := fun q hq => by
    funext i
    rw [pf_at, if_neg (by omega), va_up_ne _ _ (by omega), b4 q (by omega) (by omega)]
  have hup : ∀ q, q ≠ 6 → pf υ1 6 (υ1 6 0 + 1) q = υ q := fun q hq => by
    funext i
    rw [pf_at, if_neg hq, a4 q hq]
  refine ⟨pa1, pf υ1 6 (υ1 6 0 + 1), va_up ω (pa1 u2) σ1, va_up sid (pa1 u2) (sid 0), pf (va_up μ1 (20 + u2) (cpf (μ1 8) (μ1 (20 + u2)))) 12 (nI u2 + 1), ?_, ?_, ⟨?_, ?_, fun v hv9 => ?_, a5, a6, ?_, u2 + 1, by omega, ?_, ?_, fun j hj => ?_⟩, va_up_ne _ _ (by omega), va_up_ne _ _ (by omega), hup, hm⟩
  · unfold mX3_remember
    rw [a1, ob2_e, a3, hix_at a2, ob1_e, hgC, ob1_e, c1, ob1_e, ob1_e, ob1_e, ob1_e]
  · unfold mX4_remember
    rw [b1, ob1_e, b3, hix_at b2, ob1_e, copy_eq hF, ob1_e, ob1_e, ob1_e, va_up_ne _ _ (by omega), b3]
  · obtain ⟨len, d1, d2, d3, d4⟩ := hbuf
    exact ⟨len, d1, by rw [hup 1 (by decide)]; exact d2, by rw [hm 2 (by decide)]; exact d3, fun k hk => by rw [hm 1 (by decide)]; exact d4 k hk⟩
  · rw [hup 2 (by decide), hm 7 (by decide)]; exact herr
  · by_cases hvv : v = pa1 u2
    · rw [hvv, va_up_self]; exact hs 0 (by decide)
    · rw [va_up_ne _ _ hvv]; exact hs v hv9
  · rw [va_up_ne _ _ (show (0 : Nat) ≠ pa1 u2 by omega), va_up_ne _ _ (show (0 : Nat) ≠ pa1 u2 by omega), hm 8 (by decide)]; exact hnow
  · rw [pf_at, if_pos rfl, a3, nI_s]
  · rw [pf_at, if_pos rfl, nI_s]
  · have hne12 : ∀ i, pf (va_up μ1 (20 + u2) (cpf (μ1 8) (μ1 (20 + u2)))) 12 (nI u2 + 1) (20 + j) i = va_up μ1 (20 + u2) (cpf (μ1 8) (μ1 (20 + u2))) (20 + j) i := fun i => by rw [pf_at, if_neg (by omega)]
    by_cases hj2 : j = u2
    · subst hj2
      rw [va_up_self, va_up_self]
      refine hW.2 _ _ (μ 8) _ (fun x hx => ?_) (hW.1 _ (ω 0) _ _ c2 c3 c4 hnow)
      rw [hne12, va_up_self, cpf_at _ _ _ hx, b4 8 (by decide) (by decide)]
    · have hjv : pa1 j ≠ pa1 u2 := fun h => hj2 (a6 j u2 (by omega) a2 h)
      rw [va_up_ne _ _ hjv, va_up_ne _ _ hjv]
      rcases a7 with ⟨x1, x2, rfl⟩ | ⟨x1, x2, x3⟩
      · rcases b5 with ⟨y1, y2, rfl⟩ | ⟨y1, y2, y3⟩
        · refine hW.2 _ _ _ _ (fun x hx => ?_) (hpast j (by omega))
          rw [hne12, va_up_ne _ _ (by omega)]
        · omega
      · rcases b5 with ⟨y1, y2, rfl⟩ | ⟨y1, y2, y3⟩
        · omega
        · rw [x3 j (by omega)]
          refine hW.2 _ _ _ _ (fun x hx => ?_) (hpast (j + 1) (by omega))
          rw [hne12, va_up_ne _ _ (by omega), y3 j (by omega) x hx]
