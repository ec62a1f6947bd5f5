/-! pure: the relation kept, over a relation of one world with one row of the reference's -/
def HI (WR : MS → MS → FS → Prop) : IT := fun τs n pa β υ ω sid μ =>
  (∃ len, len ≤ 700 ∧ υ 1 0 = nI len ∧ μ 2 0 = nI len ∧ ∀ k, k < len → eqB (β k) (μ 1 k)) ∧ υ 2 0 = μ 7 0 ∧ (∀ v, v < 10 → sid v < n) ∧ (∀ j, j < 8 → 2 ≤ pa j ∧ pa j < 10) ∧ (∀ i j, i < 8 → j < 8 → pa i = pa j → i = j) ∧ WR (τs (sid 0)) (ω 0) (μ 8) ∧ ∃ u, u ≤ 8 ∧ υ 6 0 = nI u ∧ μ 12 0 = nI u ∧ ∀ j, j < u → WR (τs (sid (pa j))) (ω (pa j)) (μ (20 + j))
/-- what a call may change without touching the relation's own part -/
theorem HI.same {WR : MS → MS → FS → Prop} {τs : WS} {n : Nat} {pa : PA} {β β1 : FS} {υ υ1 : MS} {ω : WS} {sid : PA} {μ μ1 : MS} (h : HI WR τs n pa β υ ω sid μ) (hb : ∃ len, len ≤ 700 ∧ υ1 1 0 = nI len ∧ μ1 2 0 = nI len ∧ ∀ k, k < len → eqB (β1 k) (μ1 1 k)) (he : υ1 2 0 = μ1 7 0) (h6 : υ1 6 = υ 6) (hm : ∀ q, 8 ≤ q → μ1 q = μ q) : HI WR τs n pa β1 υ1 ω sid μ1 := by
  obtain ⟨-, -, h3, h4, h5, h7, u, h8, h9, h10, h11⟩ := h
  refine ⟨hb, he, h3, h4, h5, by rw [hm 8 (by omega)]; exact h7, u, h8, by rw [h6]; exact h9, by rw [hm 12 (by omega)]; exact h10, fun j hj => by rw [hm (20 + j) (by omega)]; exact h11 j hj⟩
theorem p_append {F : Nat} (hF : 21 ≤ F) (WR : MS → MS → FS → Prop) : ag_append F (HI WR) (HI WR) := by
  obtain ⟨f, rfl⟩ : ∃ f, F = f + 21 := ⟨F - 21, by omega⟩
  intro τs n pa β υ ω sid μ hI i1 i2 i3 i4 i5
  obtain ⟨len, h1, h2, h3, h4⟩ := hI.1
  obtain ⟨r, β1, υ1, μ1, len1, a1, a2, a3, a4, a5, a6, a7, a8⟩ := append_ok (fu := f) (τs := τs) (n := n) (pa := pa) (ω := ω) (sid := sid) i1 i2 i3 i4 i5 h2 h3 h1 h4
  refine ⟨r, β1, υ1, μ1, a1, a2, hI.same ⟨len1, a3, a4, a5, a6⟩ ?_ (a7 6 (by decide)) (fun q hq => a8 q (by omega) (by omega) (by omega))⟩
  rw [a7 2 (by decide), a8 7 (by decide) (by decide) (by decide)]
  exact hI.2.1
theorem p_errorOffset (F : Nat) (WR : MS → MS → FS → Prop) : ag_errorOffset F (HI WR) (HI WR) := by
  intro τs n pa β υ ω sid μ hI
  refine ⟨υ 2 0, pf μ 0 0, rfl, ?_, ?_⟩
  · unfold mX4_errorOffset
    rw [ob1_e, pf_at, if_neg (by decide), ← hI.2.1]
  · obtain ⟨len, h1, h2, h3, h4⟩ := hI.1
    have hne : ∀ q, q ≠ 0 → pf μ 0 0 q = μ q := fun q hq => by funext i; rw [pf_at, if_neg hq]
    exact hI.same ⟨len, h1, h2, by rw [hne 2 (by decide)]; exact h3, fun k hk => by rw [hne 1 (by decide)]; exact h4 k hk⟩ (by rw [hne 7 (by decide)]; exact hI.2.1) rfl (fun q hq => hne q (by omega))
