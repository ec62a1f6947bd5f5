/-! pure: a tick of both sides -/
section TK
variable {τ σ : MS} {w : Nat → Int32} {μ0 μ : MS} {F s j k : Nat} {p v : Int32} {B T : Int}
theorem WI.t0 (h : WI B T τ σ) : 0 ≤ (σ 1 0).toInt := h.2.2.1.1
theorem WI.mono {B' T' : Int} (h : WI B T τ σ) (hB : B ≤ B') (hT : T ≤ T') : WI B' T' τ σ := ⟨h.1.wide hB, h.2.1, h.2.2.1.wide (Int.le_refl _) hT, h.2.2.2⟩
theorem ph1_inv (hI : SI τ) (h : WI B T τ σ) (hj : j < Jn τ) : WI B T τ (ph1 τ j σ) ∧ ∀ i, σ 5 i = 2 → ph1 τ j σ 5 i = 2 := by
  obtain ⟨hS, hJ⟩ := h.2.1 j hj
  unfold ph1
  split
  · exact ⟨h, fun _ h => h⟩
  · next h2 =>
    split
    · next h0 =>
      have hS' : LSp τ (u2 σ 5 j 1) j := fun t t1 t2 => by
        have := hS t t1 t2
        rw [u2_n _ _ _ _ 10 t (by omega), u2_n _ _ _ _ 9 t (by omega), u2_n _ _ _ _ 12 t (by omega), u2_n _ _ _ _ 1 0 (by omega)]
        exact this
      obtain ⟨a, b, c, d⟩ := ent_inv (p := 0) (q := 0) hI hj hS' (h.1.up (by decide)) (by rw [u2_n _ _ _ _ 1 0 (by omega)]; exact h.t0) (u2_s _ _ _ _) rfl (by decide)
      refine ⟨h.loc hI hj ((Loc.up (by omega)).trans a) c b d, fun i hi => ?_⟩
      have hij : i ≠ j := fun q => by subst q; exact h2 hi
      rw [ent_5 hij, u2_n _ _ _ _ _ _ (by omega)]
      exact hi
    · exact ⟨h, fun _ h => h⟩
theorem ph2_inv (hI : SI τ) (hB : B ≤ 2147480000) (h : WI B T τ σ) (hj : j < Jn τ) : WI B T τ (ph2 τ j σ) ∧ ∀ i, σ 5 i = 2 → ph2 τ j σ 5 i = 2 := by
  obtain ⟨hS, hJ⟩ := h.2.1 j hj
  unfold ph2
  split
  · next h1 =>
    obtain ⟨a, b, c, d⟩ := move_inv hI hj hB hS hJ h.1 h.t0 h1
    refine ⟨h.loc hI hj a c b d, fun i hi => ?_⟩
    have hij : i ≠ j := fun q => by subst q; rw [h1] at hi; exact absurd hi (by decide)
    rw [a 5 i (Or.inr (Or.inl ⟨by decide, by decide, hij⟩))]
    exact hi
  · exact ⟨h, fun _ h => h⟩
theorem ph3_inv (hI : SI τ) (hB : B ≤ 2147480000) (h : WI B T τ σ) (hj : j < Jn τ) (hw : w j = 2 → σ 5 j = 2) : WI (B + 999) T τ (ph3 τ w j σ) ∧ ∀ i, i ≠ j → ph3 τ w j σ 5 i = σ 5 i := by
  obtain ⟨hS, hJ⟩ := h.2.1 j hj
  unfold ph3
  split
  · next h1 =>
    obtain ⟨a, b, c, d⟩ := undo_inv hI hj hB hS hJ h.1 (hw h1)
    exact ⟨h.loc hI hj a c b d, fun i hi => a 5 i (Or.inr (Or.inl ⟨by decide, by decide, hi⟩))⟩
  · exact ⟨h.mono (by omega) (Int.le_refl _), fun _ _ => rfl⟩
theorem fo1_inv (hI : SI τ) (h : WI B T τ σ) (hk : k ≤ Jn τ) : WI B T τ (fo (ph1 τ) 0 k σ) ∧ ∀ i, σ 5 i = 2 → fo (ph1 τ) 0 k σ 5 i = 2 := by
  have := fo_ind (g := ph1 τ) (fun _ y => WI B T τ y ∧ ∀ i, σ 5 i = 2 → y 5 i = 2) (n := k) (a := 0) (x := σ) ⟨h, fun _ h => h⟩ (fun s y h1 h2 hy => by
    obtain ⟨a, b⟩ := ph1_inv (j := s) hI hy.1 (by omega)
    exact ⟨a, fun i hi => b i (hy.2 i hi)⟩)
  exact this
theorem fo2_inv (hI : SI τ) (hB : B ≤ 2147480000) (h : WI B T τ σ) (hk : k ≤ Jn τ) : WI B T τ (fo (ph2 τ) 0 k σ) ∧ ∀ i, σ 5 i = 2 → fo (ph2 τ) 0 k σ 5 i = 2 := by
  have := fo_ind (g := ph2 τ) (fun _ y => WI B T τ y ∧ ∀ i, σ 5 i = 2 → y 5 i = 2) (n := k) (a := 0) (x := σ) ⟨h, fun _ h => h⟩ (fun s y h1 h2 hy => by
    obtain ⟨a, b⟩ := ph2_inv (j := s) hI hB hy.1 (by omega)
    exact ⟨a, fun i hi => b i (hy.2 i hi)⟩)
  exact this
theorem fo3_inv (hI : SI τ) (hB : B ≤ 2147400000) (h : WI B T τ σ) (hw : ∀ i, w i = 2 → σ 5 i = 2) (hk : k ≤ Jn τ) : WI (B + 999 * (k : Int)) T τ (fo (ph3 τ w) 0 k σ) ∧ ∀ i, k ≤ i → w i = 2 → fo (ph3 τ w) 0 k σ 5 i = 2 := by
  have hJ := hI.J.2
  have := fo_ind (g := ph3 τ w) (fun s y => WI (B + 999 * (s : Int)) T τ y ∧ ∀ i, s ≤ i → w i = 2 → y 5 i = 2) (n := k) (a := 0) (x := σ) ⟨by simpa using h, fun i _ h => hw i h⟩ (fun s y h1 h2 hy => by
    obtain ⟨a, b⟩ := ph3_inv (w := w) (j := s) hI (by omega) hy.1 (by omega) (fun q => hy.2 s (Nat.le_refl _) q)
    refine ⟨?_, fun i hi hi2 => ?_⟩
    · rw [show B + 999 * ((s + 1 : Nat) : Int) = B + 999 * (s : Int) + 999 by omega]; exact a
    · rw [b i (by omega)]; exact hy.2 i (by omega) hi2)
  rw [Nat.zero_add] at this
  exact this
theorem tick_inv (hI : SI τ) (hB : B ≤ 2147400000) (hT : T ≤ 1000000) (h : WI B T τ σ) : WI (B + 7992) (T + 1) τ (tickF τ σ) ∧ tickF τ σ 1 0 = σ 1 0 + 1 := by
  have hJ := hI.J.2
  obtain ⟨a1, b1⟩ := fo1_inv (k := Jn τ) hI h (Nat.le_refl _)
  obtain ⟨a2, b2⟩ := fo2_inv (k := Jn τ) hI (by omega) a1 (Nat.le_refl _)
  obtain ⟨a3, -⟩ := fo3_inv (w := σ 5) (k := Jn τ) hI hB a2 (fun i hi => b2 i (b1 i hi)) (Nat.le_refl _)
  have e1 : (1 : Int32).toInt = 1 := rfl
  have et : ph123 τ σ 1 0 = σ 1 0 := by
    have t1 := fo_ind (g := ph1 τ) (fun _ y => WI B T τ y ∧ y 1 0 = σ 1 0) (n := Jn τ) (a := 0) (x := σ) ⟨h, rfl⟩ (fun s y h1 h2 hy => by
      refine ⟨(ph1_inv (j := s) hI hy.1 (by omega)).1, ?_⟩
      have hyS := (hy.1.2.1 s (by omega)).1
      have : ph1 τ s y 1 0 = y 1 0 := by
        unfold ph1
        split
        · rfl
        · split
          · have hS' : LSp τ (u2 y 5 s 1) s := fun t t1 t2 => by
              have := hyS t t1 t2
              rw [u2_n _ _ _ _ 10 t (by omega), u2_n _ _ _ _ 9 t (by omega), u2_n _ _ _ _ 12 t (by omega), u2_n _ _ _ _ 1 0 (by omega)]
              exact this
            obtain ⟨a, -⟩ := ent_inv (B := B) (p := 0) (q := 0) hI (show s < Jn τ by omega) hS' (hy.1.1.up (by decide)) (by rw [u2_n _ _ _ _ 1 0 (by omega)]; exact hy.1.t0) (u2_s _ _ _ _) rfl (by decide)
            rw [a 1 0 (Or.inl rfl), u2_n _ _ _ _ 1 0 (by omega)]
          · rfl
      exact this.trans hy.2)
    have t2 := fo_ind (g := ph2 τ) (fun _ y => WI B T τ y ∧ y 1 0 = σ 1 0) (n := Jn τ) (a := 0) (x := fo (ph1 τ) 0 (Jn τ) σ) t1 (fun s y h1 h2 hy => by
      refine ⟨(ph2_inv (j := s) hI (by omega) hy.1 (by omega)).1, ?_⟩
      obtain ⟨hS, hJ⟩ := hy.1.2.1 s (by omega)
      have : ph2 τ s y 1 0 = y 1 0 := by
        unfold ph2
        split
        · next q => exact (move_inv hI (show s < Jn τ by omega) (by omega) hS hJ hy.1.1 hy.1.t0 q).1 1 0 (Or.inl rfl)
        · rfl
      exact this.trans hy.2)
    have t3 := fo_ind (g := ph3 τ (σ 5)) (fun s y => (WI (B + 999 * (s : Int)) T τ y ∧ ∀ i, s ≤ i → σ 5 i = 2 → y 5 i = 2) ∧ y 1 0 = σ 1 0) (n := Jn τ) (a := 0) (x := fo (ph2 τ) 0 (Jn τ) (fo (ph1 τ) 0 (Jn τ) σ)) ⟨⟨by simpa using a2, fun i _ hi => b2 i (b1 i hi)⟩, t2.2⟩ (fun s y h1 h2 hy => by
      obtain ⟨a, b⟩ := ph3_inv (w := σ 5) (j := s) hI (by omega) hy.1.1 (by omega) (fun q => hy.1.2 s (Nat.le_refl _) q)
      refine ⟨⟨?_, fun i hi hi2 => ?_⟩, ?_⟩
      · rw [show B + 999 * ((s + 1 : Nat) : Int) = B + 999 * (s : Int) + 999 by omega]; exact a
      · rw [b i (by omega)]; exact hy.1.2 i (by omega) hi2
      · obtain ⟨hS, hJ⟩ := hy.1.1.2.1 s (by omega)
        have : ph3 τ (σ 5) s y 1 0 = y 1 0 := by
          unfold ph3
          split
          · next q => exact (undo_inv hI (show s < Jn τ by omega) (by omega) hS hJ hy.1.1.1 (hy.1.2 s (Nat.le_refl _) q)).1 1 0 (Or.inl rfl)
          · rfl
        exact this.trans hy.2)
    exact t3.2
  have hw : WI (B + 7992) T τ (ph123 τ σ) := WI.mono a3 (by omega) (Int.le_refl _)
  unfold tickF
  generalize ph123 τ σ = y at et hw ⊢
  have ht : ∀ c i, c ≠ 1 → pf y 1 (y 1 0 + 1) c i = y c i := fun c i hc => pf_n _ _ _ _ _ hc
  have hh : WI (B + 7992) (T + 1) τ (pf y 1 (y 1 0 + 1)) := by
    obtain ⟨b1, b2, ⟨b3, b4⟩, b5⟩ := hw
    have e10 : pf y 1 (y 1 0 + 1) 1 0 = y 1 0 + 1 := by rw [pf_at, if_pos rfl]
    refine ⟨fun k hk => by rw [ht _ _ (by decide)]; exact b1 k hk, fun j hj => ⟨fun t t1 t2 => ?_, ?_⟩, ?_, fun i => by rw [pf_at, if_pos rfl, e10]⟩
    · have := (b2 j hj).1 t t1 t2
      rw [ht _ _ (by decide), ht _ _ (by decide), ht _ _ (by decide), e10, aI (by omega) (by omega)]
      exact ⟨this.1, fun q => by have := this.2 q; omega⟩
    · have := (b2 j hj).2
      unfold LJ at this ⊢
      rw [ht _ _ (by decide), ht _ _ (by decide), ht _ _ (by decide)]
      exact ⟨this.1, this.2.1, this.2.2.1, fun q => by obtain ⟨s, h1, h2, h3⟩ := this.2.2.2 q; exact ⟨s, h1, h2, by rw [ht _ _ (by decide)]; exact h3⟩⟩
    · rw [e10]; unfold bd; rw [aI (by omega) (by omega)]; omega
  exact ⟨hh, by rw [pf_at, if_pos rfl, et]⟩

end TK

