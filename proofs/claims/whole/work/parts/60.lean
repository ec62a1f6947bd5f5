/-! pure: all eighteen, and the start -/
def Bk (k : Nat) : Int := 10000 + 1700000 * (k : Int)
def Ik (k : Nat) : IT := HI (WRB (Bk k))
theorem Ik.s (k : Nat) : ∀ τs n pa β υ ω sid μ, Ik k τs n pa β υ ω sid μ → Ik (k + 1) τs n pa β υ ω sid μ := fun τs n pa β υ ω sid μ h => HI.mono (WRB.mono (by unfold Bk; omega)) h
theorem wk4 {F : Nat} {I I1 I2 : IT} (m : ∀ τs n pa β υ ω sid μ, I1 τs n pa β υ ω sid μ → I2 τs n pa β υ ω sid μ) : (ag_append F I I1 → ag_append F I I2) ∧ (ag_errorOffset F I I1 → ag_errorOffset F I I2) ∧ (ag_undo F I I1 → ag_undo F I I2) ∧ (ag_checksum F I I1 → ag_checksum F I I2) := by
  refine ⟨fun h τs n pa β υ ω sid μ hI i1 i2 i3 i4 i5 => ?_, fun h τs n pa β υ ω sid μ hI => ?_, fun h τs n pa β υ ω sid μ hI => ?_, fun h τs n pa β υ ω sid μ hI => ?_⟩
  · obtain ⟨a, b, c, d, e1, e2, e3⟩ := h τs n pa β υ ω sid μ hI i1 i2 i3 i4 i5
    exact ⟨a, b, c, d, e1, e2, m _ _ _ _ _ _ _ _ e3⟩
  · obtain ⟨a, b, e1, e2, e3⟩ := h τs n pa β υ ω sid μ hI
    exact ⟨a, b, e1, e2, m _ _ _ _ _ _ _ _ e3⟩
  · obtain ⟨a, b, c, d, e, e1, e2, e3⟩ := h τs n pa β υ ω sid μ hI
    exact ⟨a, b, c, d, e, e1, e2, m _ _ _ _ _ _ _ _ e3⟩
  · obtain ⟨a, b, e1, e2, e3⟩ := h τs n pa β υ ω sid μ hI
    exact ⟨a, b, e1, e2, m _ _ _ _ _ _ _ _ e3⟩
theorem wk8 {F : Nat} {I I1 I2 : IT} (m : ∀ τs n pa β υ ω sid μ, I1 τs n pa β υ ω sid μ → I2 τs n pa β υ ω sid μ) : (ag_state F I I1 → ag_state F I I2) ∧ (ag_stock F I I1 → ag_stock F I I2) ∧ (ag_journey F I I1 → ag_journey F I I2) ∧ (ag_step F I I1 → ag_step F I I2) ∧ (ag_owed F I I1 → ag_owed F I I2) ∧ (ag_restsIn F I I1 → ag_restsIn F I I2) ∧ (ag_stateAfter F I I1 → ag_stateAfter F I I2) ∧ (ag_help F I I1 → ag_help F I I2) := by
  refine ⟨fun h τs n pa β υ ω sid μ hI i1 => ?_, fun h τs n pa β υ ω sid μ hI i1 i2 => ?_, fun h τs n pa β υ ω sid μ hI i1 i2 => ?_, fun h τs n pa β υ ω sid μ hI i1 i2 i3 => ?_, fun h τs n pa β υ ω sid μ hI i1 i2 => ?_, fun h τs n pa β υ ω sid μ hI i1 => ?_, fun h τs n pa β υ ω sid μ hI i1 i2 => ?_, fun h τs n pa β υ ω sid μ hI i1 i2 => ?_⟩
  · obtain ⟨o, b, μ1, e1, e2, e3, e4, e5, e6, e7⟩ := h τs n pa β υ ω sid μ hI i1
    exact ⟨o, b, μ1, e1, e2, e3, e4, e5, fun E q => m _ _ _ _ _ _ _ _ (e6 E q), fun x q => m _ _ _ _ _ _ _ _ (e7 x q)⟩
  · obtain ⟨o, b, μ1, e1, e2, e3, e4, e5, e6, e7⟩ := h τs n pa β υ ω sid μ hI i1 i2
    exact ⟨o, b, μ1, e1, e2, e3, e4, e5, fun E q => m _ _ _ _ _ _ _ _ (e6 E q), fun x q => m _ _ _ _ _ _ _ _ (e7 x q)⟩
  · obtain ⟨o, b, μ1, e1, e2, e3, e4, e5, e6, e7⟩ := h τs n pa β υ ω sid μ hI i1 i2
    exact ⟨o, b, μ1, e1, e2, e3, e4, e5, fun E q => m _ _ _ _ _ _ _ _ (e6 E q), fun x q => m _ _ _ _ _ _ _ _ (e7 x q)⟩
  · obtain ⟨o, b, μ1, e1, e2, e3, e4, e5, e6, e7⟩ := h τs n pa β υ ω sid μ hI i1 i2 i3
    exact ⟨o, b, μ1, e1, e2, e3, e4, e5, fun E q => m _ _ _ _ _ _ _ _ (e6 E q), fun x q => m _ _ _ _ _ _ _ _ (e7 x q)⟩
  · obtain ⟨o, b, μ1, e1, e2, e3, e4, e5, e6, e7⟩ := h τs n pa β υ ω sid μ hI i1 i2
    exact ⟨o, b, μ1, e1, e2, e3, e4, e5, fun E q => m _ _ _ _ _ _ _ _ (e6 E q), fun x q => m _ _ _ _ _ _ _ _ (e7 x q)⟩
  · obtain ⟨o, b, μ1, e1, e2, e3, e4, e5, e6, e7⟩ := h τs n pa β υ ω sid μ hI i1
    exact ⟨o, b, μ1, e1, e2, e3, e4, e5, fun E q => m _ _ _ _ _ _ _ _ (e6 E q), fun x q => m _ _ _ _ _ _ _ _ (e7 x q)⟩
  · obtain ⟨o, b, μ1, e1, e2, e3, e4, e5, e6, e7⟩ := h τs n pa β υ ω sid μ hI i1 i2
    exact ⟨o, b, μ1, e1, e2, e3, e4, e5, fun E q => m _ _ _ _ _ _ _ _ (e6 E q), fun x q => m _ _ _ _ _ _ _ _ (e7 x q)⟩
  · obtain ⟨o, b, μ1, e1, e2, e3, e4, e5, e6, e7⟩ := h τs n pa β υ ω sid μ hI i1 i2
    exact ⟨o, b, μ1, e1, e2, e3, e4, e5, fun E q => m _ _ _ _ _ _ _ _ (e6 E q), fun x q => m _ _ _ _ _ _ _ _ (e7 x q)⟩
theorem agrees : Agrees 5000 Ik := fun k hk => by
  have hF : 5000 ≤ 5000 := Nat.le_refl _
  have b1 : 0 ≤ Bk k := by unfold Bk; omega
  have b2 : Bk k ≤ 2000000000 := by unfold Bk; omega
  have b3 : Bk k + 1600000 ≤ Bk (k + 1) := by unfold Bk; omega
  have b4 : Bk (k + 1) ≤ 2000000000 := by unfold Bk; omega
  have b5 : 9999 ≤ Bk k := by unfold Bk; omega
  have w4 := wk4 (F := 5000) (I := Ik k) (Ik.s k)
  have w8 := wk8 (F := 5000) (I := Ik k) (Ik.s k)
  exact ⟨w4.1 (p_append (by decide) _), p_load hF b5 (by omega), w4.2.1 (p_errorOffset _ _), w8.1 (p_state hF), w8.2.1 (p_stock hF), w8.2.2.1 (p_journey hF), w8.2.2.2.1 (p_step hF), w8.2.2.2.2.1 (p_owed hF), w8.2.2.2.2.2.1 (p_restsIn hF b1 b2), w8.2.2.2.2.2.2.1 (p_stateAfter hF b1 b2), w8.2.2.2.2.2.2.2 (p_help hF b1 b2), p_pass hF b1 b3 b4, p_settle hF b1 b3 b4, p_writeOff hF b1 b3 b4, p_goForward hF b1 b3 b4, p_restock hF b1 b3 b4, w4.2.2.1 (p_undo (by decide) (WRB_s _)), w4.2.2.2 (p_checksum hF), Ik.s k⟩
theorem Ik_start : Ik 0 (fun _ => τ0) 1 (fun k => k + 2) (fun _ => 0) υ0 (fun _ => σ0) (fun _ => 0) μ0 := by
  have hX := X0_start (d := dInit) (fun _ _ => rfl)
  have hc : Cpy σ0 (beg τ0 σ0) := ⟨fun _ => rfl, rfl, fun c hc => by
    rcases (show c = 3 ∨ c = 5 ∨ c = 6 ∨ c = 7 ∨ c = 8 ∨ c = 9 ∨ c = 10 ∨ c = 11 ∨ c = 12 ∨ c = 13 by omega) with rfl | rfl | rfl | rfl | rfl | rfl | rfl | rfl | rfl | rfl <;> rfl⟩
  exact HI_start ⟨hX.SI, (hX.rel (σ := σ0)).cpy hc, (hX.wi (σ := σ0) (B := Bk 0) (by unfold Bk; omega)).cpy hc⟩
