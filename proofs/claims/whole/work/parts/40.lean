/-! pure: pass and restock -/
theorem HI.chg {WR WR' : MS → MS → FS → Prop} (hm : ∀ τ σ d, WR τ σ d → WR' τ σ d) {τs : WS} {n : Nat} {pa : PA} {β : FS} {υ : MS} {ω : WS} {sid : PA} {μ μ1 : MS} {σ' : MS} (h : HI WR τs n pa β υ ω sid μ) (hw : WR' (τs (sid 0)) σ' (μ1 8)) (hq : ∀ q, q ≠ 0 → q ≠ 8 → μ1 q = μ q) : HI WR' τs n pa β υ (va_up ω 0 σ') sid μ1 := by
  obtain ⟨⟨len, d1, d2, d3, d4⟩, herr, hs0, hp, hi, hnow, u, hu, h6, h12, hpast⟩ := h
  refine ⟨⟨len, d1, d2, by rw [hq 2 (by decide) (by decide)]; exact d3, fun k hk => by rw [hq 1 (by decide) (by decide)]; exact d4 k hk⟩, by rw [hq 7 (by decide) (by decide)]; exact herr, hs0, hp, hi, by rw [va_up_self]; exact hw, u, hu, h6, by rw [hq 12 (by decide) (by decide)]; exact h12, fun j hj => ?_⟩
  have := (hp j (by omega)).1
  rw [va_up_ne _ _ (by omega), hq _ (by omega) (by omega)]
  exact hm _ _ _ (hpast j hj)
theorem HI.mono {WR WR' : MS → MS → FS → Prop} (hm : ∀ τ σ d, WR τ σ d → WR' τ σ d) {τs : WS} {n : Nat} {pa : PA} {β : FS} {υ : MS} {ω : WS} {sid : PA} {μ : MS} (h : HI WR τs n pa β υ ω sid μ) : HI WR' τs n pa β υ ω sid μ := by
  obtain ⟨a, b, c, d, e, f, u, hu, h6, h12, hpast⟩ := h
  exact ⟨a, b, c, d, e, hm _ _ _ f, u, hu, h6, h12, fun j hj => hm _ _ _ (hpast j hj)⟩
theorem WRB.mono {B B' : Int} (hB : B ≤ B') : ∀ τ σ d, WRB B τ σ d → WRB B' τ σ d := fun τ σ d h => ⟨h.1, h.2.1, h.2.2.mono hB (Int.le_refl _)⟩
theorem ob4_e {α β δ ε γ : Type} (x : α) (y : β) (z : δ) (w : ε) (f : α → β → δ → ε → Option γ) : ob4 (some (x, y, z, w)) f = f x y z w := rfl
section PP
variable {F : Nat} {B B' : Int}
theorem c_ended2 {τ σ : MS} (hI : SI τ) (hF : 5000 ≤ F) : mX2_endedJourneys F τ σ = some (jin τ σ 3 + jin τ σ 4) := by
  unfold mX2_endedJourneys
  rw [c_jin hI hF, ob1_e, c_jin hI hF, ob1_e]
theorem p_pass (hF : 5000 ≤ F) (hB0 : 0 ≤ B) (hB : B + 1600000 ≤ B') (hB2 : B' ≤ 2000000000) : ag_pass F (HI (WRB B)) (HI (WRB B')) := by
  intro τs n pa β υ ω sid μ hI i
  obtain ⟨⟨hS, hR, hW⟩, hg⟩ := hI.now
  have ht := hW.2.2.1
  have hmn := WRB.mono (B := B) (B' := B') (by omega)
  obtain ⟨t1, t2⟩ := ht
  by_cases hok : (¬ i < 1 ∧ ¬ (200 : Int32) < i) ∧ ω 0 1 0 + i ≤ (9999 : Int32)
  · obtain ⟨⟨h1, h2⟩, h3⟩ := hok
    obtain ⟨t, q1, q2, rfl⟩ := in_nI (lo := 1) (hi := 200) (a := 1) (b := 200) rfl rfl (by decide) (by decide) h1 h2
    obtain ⟨pa1, υ1, ω1, sid1, μ1, r1, r2, r3, r4, r5, r6, r7⟩ := rem_ok (F := F) (by omega) (WRB_s B) (hI.p0 0)
    obtain ⟨⟨hS1, hR1, hW1⟩, hg1⟩ := r3.now
    rw [r4, r5] at hR1 hW1
    rw [r5] at hS1
    have en : (nI t).toInt = t := nI_toInt (by omega)
    have h3' : (ω 0 1 0).toInt + t ≤ 9999 := by
      rw [leI, aI (by omega) (by omega), en, show (9999 : Int32).toInt = 9999 from rfl] at h3; exact h3
    have hW2 : WI B (ω 0 1 0).toInt (τs (sid 0)) (ω 0) := ⟨hW.1, hW.2.1, ⟨t1, Int.le_refl _⟩, hW.2.2.2⟩
    have hrun := c_run (st := stN) (a := -1) (n := t) hS hF st_N (by omega) (by decide) (by decide) (ck_N hF) hW (by omega)
    have hWr := run_inv (st := stN) hS t (ω 0) B _ hW2 (by omega) (by omega)
    have hM7 : MR (τs (sid 0)) (ω 0) (fun j => μ1 8 (27 + 9 * j)) μ1 μ1 := mrOf (μ := μ1) hR1
    obtain ⟨d, μ', w', l1, l2, l3, l4⟩ := m_runL (st := stN) (F := F) (μ0 := μ1) (f := fun x : Int32 × MS => mX4_pass_L63 F (jin (τs (sid 0)) (ω 0) 3 + jin (τs (sid 0)) (ω 0) 4) (nI t) x.1 x.2) (out := fun i μ => μ) (n := t) hS hF (by omega) (fun i σ B T μ w hi hW hM => by
      show mX4_pass_L63 F _ (nI t) (nI i) μ = _
      unfold mX4_pass_L63
      by_cases q : i < t
      · rw [if_neg (nle (by omega) (by omega) q), if_pos ⟨q, rfl⟩]
      · have : i = t := by omega
        subst this
        rw [if_pos (Int32.le_refl _), if_neg (by omega)]) t 0 F (ω 0) B 9999 _ _ (Nat.zero_add t) (by omega) hW hM7 (by omega) (by omega)
    have hrest : ∀ q, q ≠ 8 → μ' q = μ1 q := fun q hq => l3.2.1 q hq
    refine ⟨.inr ((jin (τs (sid 0)) (runT (τs (sid 0)) stN t (ω 0)) 3 + jin (τs (sid 0)) (runT (τs (sid 0)) stN t (ω 0)) 4) - (jin (τs (sid 0)) (ω 0) 3 + jin (τs (sid 0)) (ω 0) 4), pa1, υ1, va_up ω1 0 (runT (τs (sid 0)) stN t (ω 0)), sid1), (jin (τs (sid 0)) (runT (τs (sid 0)) stN t (ω 0)) 3 + jin (τs (sid 0)) (runT (τs (sid 0)) stN t (ω 0)) 4) - (jin (τs (sid 0)) (ω 0) 3 + jin (τs (sid 0)) (ω 0) 4), μ', ?_, by simp, ?_, ?_, ?_, fun _ h => (by cases h), fun x hx => ?_⟩
    · unfold mX3_pass
      rw [if_neg h1, if_neg h2, hg, ob1_e, if_pos h3, ob1_e, cnd_F, r1, ob4_e, hg1, ob1_e, r5, r4, c_ended2 hS hF, ob1_e, ob1_e, hrun, ob1_e, ob1_e, ob1_e, va_up_self, c_ended2 hS hF, ob1_e]
    · unfold mX4_pass
      have hin : mX4_in F (nI t) 1 200 = some 1 := by
        unfold mX4_in
        rw [if_neg h1, if_neg h2]; rfl
      rw [ob1_e, hin, ob1_e, if_neg (by decide), rG0, pf8, hR.1.1, ob1_e, if_pos h3, ob1_e, cnd_F, ob1_e]
      rw [show mX4_fails F (pf μ 0 0) 0 1 = some (0, pf μ 0 0) from m_fails (c := false) (pf00 _ _) (by decide), ob2_e, if_pos rfl, r2, ob1_e, m_jin hS hM7 hF, ob1_e, m_jin hS hM7 hF, ob1_e, i0, l1, ob1_e, m_jin hS l3 hF, ob1_e, m_jin hS l3 hF, ob1_e]
    · unfold mX4_thrown
      rw [hrest 0 (by decide), r7 0 (by decide), pf00]
      rfl
    · intro x hx; cases hx; rfl
    · cases hx
      show HI _ τs n pa1 β υ1 (va_up ω1 0 (runT (τs (sid 0)) stN t (ω 0))) sid1 _
      refine HI.chg hmn r3 ?_ (fun q _ q8 => hrest q q8)
      rw [r5]
      exact ⟨hS, l3.1, hWr.mono (by omega) (by omega)⟩
  · have hthrow : mX3_pass F τs n pa β υ ω sid i = some (.inl "java/lang/IllegalArgumentException") → mX4_pass F μ i = some (0, pf μ 0 1) → _ := fun h1 h2 => (⟨.inl "java/lang/IllegalArgumentException", 0, pf μ 0 1, h1, by simp, h2, th0 _ _ _, (by simp), fun _ _ => (hI.p0 1).mono hmn, fun _ h => (by cases h)⟩ : ∃ o b μ1, mX3_pass F τs n pa β υ ω sid i = some o ∧ (∀ E, o = .inl E → E ∈ (["java/lang/IllegalArgumentException"] : List String)) ∧ mX4_pass F μ i = some (b, μ1) ∧ mX4_thrown F μ1 = some (xR ["java/lang/IllegalArgumentException"] o) ∧ (∀ x, o = .inr x → (x.1) = b) ∧ (∀ E, o = .inl E → HI (WRB B') τs n pa β υ ω sid μ1) ∧ ∀ x, o = .inr x → HI (WRB B') τs n (x.2.1) β (x.2.2.1) (x.2.2.2.1) (x.2.2.2.2) μ1)
    refine hthrow ?_ ?_
    · unfold mX3_pass
      by_cases h1 : i < 1
      · rw [if_pos h1]; rfl
      · by_cases h2 : (200 : Int32) < i
        · rw [if_neg h1, if_pos h2]; rfl
        · rw [if_neg h1, if_neg h2, hg, ob1_e, if_neg (fun q => hok ⟨⟨h1, h2⟩, q⟩)]; rfl
    · unfold mX4_pass
      have hfl : mX4_fails F (pf μ 0 0) 1 1 = some (1, pf μ 0 1) := by
        have := m_fails (F := F) (μ := pf μ 0 0) (c := true) (n := 1) (pf00 _ _) (by decide)
        rw [ift rfl, pf0f] at this
        exact this
      by_cases h1 : i < 1
      · have hin : mX4_in F i 1 200 = some 0 := by unfold mX4_in; rw [if_pos h1]; rfl
        rw [ob1_e, hin, ob1_e, if_pos rfl, ob1_e, cnd_T, ob1_e, hfl, ob2_e, if_neg (by decide)]
      · by_cases h2 : (200 : Int32) < i
        · have hin : mX4_in F i 1 200 = some 0 := by unfold mX4_in; rw [if_neg h1, if_pos h2]; rfl
          rw [ob1_e, hin, ob1_e, if_pos rfl, ob1_e, cnd_T, ob1_e, hfl, ob2_e, if_neg (by decide)]
        · have hin : mX4_in F i 1 200 = some 1 := by unfold mX4_in; rw [if_neg h1, if_neg h2]; rfl
          rw [ob1_e, hin, ob1_e, if_neg (by decide), rG0, pf8, hR.1.1, ob1_e, if_neg (fun q => hok ⟨⟨h1, h2⟩, q⟩), ob1_e, cnd_T, ob1_e, hfl, ob2_e, if_neg (by decide)]
theorem p_restock (hF : 5000 ≤ F) (hB0 : 0 ≤ B) (hB : B + 1600000 ≤ B') (hB2 : B' ≤ 2000000000) : ag_restock F (HI (WRB B)) (HI (WRB B')) := by
  intro τs n pa β υ ω sid μ hI i i2
  obtain ⟨⟨hS, hR, hW⟩, hg⟩ := hI.now
  have hmn := WRB.mono (B := B) (B' := B') (by omega)
  cases hs : outS (τs (sid 0)) i with
  | true =>
    refine ⟨.inl "java/lang/IndexOutOfBoundsException", 0, pf μ 0 1, ?_, by simp, ?_, th0 _ _ _, (by simp), fun _ _ => (hI.p0 _).mono hmn, fun _ h => (by cases h)⟩
    · unfold mX3_restock; rw [c_ckS hg, ift hs, obX_L]
    · unfold mX4_restock
      rw [ob1_e, m_noS (μ := pf μ 0 0) hS hR (pf00 _ _), ob2_e, hs, if_neg (by decide), if_pos rfl, pf0f]
  | false =>
    obtain ⟨k, hk, rfl⟩ := outS_F hS hs
    have hk6 := hS.k6 hk
    by_cases hok : ¬ i2 < 1 ∧ ¬ (999 : Int32) < i2
    · obtain ⟨h1, h2⟩ := hok
      obtain ⟨t, q1, q2, rfl⟩ := in_nI (lo := 1) (hi := 999) (a := 1) (b := 999) rfl rfl (by decide) (by decide) h1 h2
      obtain ⟨pa1, υ1, ω1, sid1, μ1, g1, g2, g3, g4, g5, g6, g7⟩ := rem_ok (F := F) (by omega) (WRB_s B) (hI.p0 0)
      obtain ⟨⟨hS1, hR1, hW1⟩, hg1⟩ := g3.now
      rw [g4, g5] at hR1 hW1
      have hM7 : MR (τs (sid 0)) (ω 0) (fun j => μ1 8 (27 + 9 * j)) μ1 μ1 := mrOf (μ := μ1) hR1
      have en : (nI t).toInt = t := nI_toInt (by omega)
      have h3 : nI t ≤ (999 : Int32) := by rw [leI, en, show (999 : Int32).toInt = 999 from rfl]; omega
      have hlv := hW.1 k hk
      refine ⟨.inr (ω 0 3 k + nI t, pa1, υ1, va_up ω1 0 (u2 (ω 0) 3 k (ω 0 3 k + nI t)), sid1), ω 0 3 k + nI t, u2 μ1 8 (7 + 2 * k) (ω 0 3 k + nI t), ?_, by simp, ?_, ?_, ?_, fun _ h => (by cases h), fun x hx => ?_⟩
      · unfold mX3_restock
        rw [c_ckS hg, iff' hs, obX_R, if_neg h1, if_pos h3, ob1_e, cnd_F, g1, ob4_e, hg1]
        simp only [ob1_e]
        rw [g4, r6 hS hk]
        simp only [ob1_e]
        rw [w6 hS hk]
        simp only [ob1_e, va_up_self]
        rw [r6 hS hk, ob1_e, u2_s]
      · unfold mX4_restock
        have hin : mX4_in F (nI t) 1 999 = some 1 := by unfold mX4_in; rw [if_neg h1, if_neg h2]; rfl
        rw [ob1_e, m_noS (μ := pf μ 0 0) hS hR (pf00 _ _), ob2_e, hs, if_pos (by decide), if_neg (by decide), hin, ob1_e, if_neg (by decide), ob1_e]
        rw [show mX4_fails F (pf μ 0 0) 0 2 = some (0, pf μ 0 0) from m_fails (c := false) (pf00 _ _) (by decide), ob2_e, if_pos rfl, g2, ob1_e, rK0 hk6, (hM7.rk hk).1, ob1_e, wK0 hk6, ob1_e, rK0 hk6, u2_s, ob1_e]
      · unfold mX4_thrown
        rw [u2_o _ _ _ _ 0 (by decide), g7 0 (by decide), pf00]
        rfl
      · intro x hx; cases hx; rfl
      · cases hx
        show HI _ τs n pa1 β υ1 (va_up ω1 0 (u2 (ω 0) 3 k (ω 0 3 k + nI t))) sid1 _
        refine HI.chg hmn g3 ?_ (fun q _ q8 => u2_o _ _ _ _ q q8)
        rw [g5]
        refine ⟨hS, (hM7.level hS hk).1, ?_⟩
        have hW' : WI B' 9999 (τs (sid 0)) (ω 0) := hW.mono (by omega) (Int.le_refl _)
        obtain ⟨v1, v2⟩ := hlv
        refine ⟨fun k9 hk9 => ?_, fun j hj => ⟨fun t9 t1 t2 => ?_, ?_⟩, ?_, fun i => ?_⟩
        · rw [u2_at]
          split
          · unfold bd; rw [aI (by omega) (by omega), en]; omega
          · exact hW'.1 k9 hk9
        · rw [u2_n _ _ _ _ 10 t9 (by omega), u2_n _ _ _ _ 9 t9 (by omega), u2_n _ _ _ _ 12 t9 (by omega), u2_n _ _ _ _ 1 0 (by omega)]
          exact (hW'.2.1 j hj).1 t9 t1 t2
        · have := (hW'.2.1 j hj).2
          unfold LJ at this ⊢
          rw [u2_n _ _ _ _ 5 j (by omega), u2_n _ _ _ _ 6 j (by omega), u2_n _ _ _ _ 8 j (by omega)]
          exact ⟨this.1, this.2.1, this.2.2.1, fun q => by obtain ⟨s, a, b, c⟩ := this.2.2.2 q; exact ⟨s, a, b, by rw [u2_n _ _ _ _ 9 s (by omega)]; exact c⟩⟩
        · rw [u2_n _ _ _ _ 1 0 (by omega)]; exact hW'.2.2.1
        · rw [u2_n _ _ _ _ 1 0 (by omega), u2_n _ _ _ _ 1 i (by omega)]; exact hW'.2.2.2 i
    · refine ⟨.inl "java/lang/IllegalArgumentException", 0, pf μ 0 2, ?_, by simp, ?_, th0 _ _ _, (by simp), fun _ _ => (hI.p0 _).mono hmn, fun _ h => (by cases h)⟩
      · unfold mX3_restock; rw [c_ckS hg, iff' hs, obX_R]
        by_cases h1 : i2 < 1
        · rw [if_pos h1]; rfl
        · have h2 : ¬ i2 ≤ (999 : Int32) := by
            intro q
            exact hok ⟨h1, fun q2 => by rw [leI] at q; rw [ltI] at q2; omega⟩
          rw [if_neg h1, if_neg h2]; rfl
      · unfold mX4_restock
        have hin : mX4_in F i2 1 999 = some 0 := by
          unfold mX4_in
          by_cases h1 : i2 < 1
          · rw [if_pos h1]; rfl
          · by_cases h2 : (999 : Int32) < i2
            · rw [if_neg h1, if_pos h2]; rfl
            · exact absurd ⟨h1, h2⟩ hok
        rw [ob1_e, m_noS (μ := pf μ 0 0) hS hR (pf00 _ _), ob2_e, hs, if_pos (by decide), if_neg (by decide), hin, ob1_e, if_pos rfl, ob1_e]
        rw [show mX4_fails F (pf μ 0 0) 1 2 = some (1, pf (pf μ 0 0) 0 2) from m_fails (c := true) (pf00 _ _) (by decide), ob2_e, if_neg (by decide), pf0f]
end PP
