/-! pure: undo -/
theorem nI_p {u : Nat} (h : 1 ≤ u) : nI u - 1 = nI (u - 1) := by
  obtain ⟨k, rfl⟩ : ∃ k, u = k + 1 := ⟨u - 1, by omega⟩
  rw [← nI_s, Nat.add_sub_cancel]
  simp
theorem p_undo {F : Nat} (hF : 452 ≤ F) {WR : MS → MS → FS → Prop} (hW : WRs WR) : ag_undo F (HI WR) (HI WR) := by
  intro τs n pa β υ ω sid μ hI
  have hI0 := hI
  obtain ⟨hbuf, herr, hs, hp, hi, hnow, u, hu, h6, h12, hpast⟩ := hI
  have hz : ∀ q, q ≠ 0 → pf μ 0 0 q = μ q := fun q hq => by funext i; rw [pf_at, if_neg hq]
  have h12z : pf μ 0 0 12 0 = nI u := by rw [hz 12 (by decide)]; exact h12
  by_cases h : 1 ≤ u
  · have hu1 : u - 1 < 8 := by omega
    have hv := hp (u - 1) hu1
    obtain ⟨σ1, c1, c2, c3, c4⟩ := copyFrom_eq F (ω (pa (u - 1))) (ω 0)
    have hgC : gC 0 (pa (u - 1)) sid n = some () := by
      unfold gC
      rw [if_pos ⟨by decide, hv.2, by omega, hs 0 (by decide), hs _ hv.2⟩]
    have hle : (1 : Int32) ≤ nI u := (nI_leq 1 u (by omega) (by omega)).mpr h
    have hne : ¬ nI u = (0 : Int32) := by
      have : ∀ u : Nat, u < 9 → 1 ≤ u → ¬ nI u = (0 : Int32) := by decide +kernel
      exact this u (by omega) h
    have hm : ∀ q, q ≠ 0 → q ≠ 8 → q ≠ 12 → va_up (pf (pf μ 0 0) 12 (nI (u - 1))) 8 (cpf (μ (20 + (u - 1))) (μ 8)) q = μ q := fun q h0 h8 h12 => by
      rw [va_up_ne _ _ h8]
      funext i
      rw [pf_at, if_neg h12, hz q h0]
    have hup : ∀ q, q ≠ 6 → pf υ 6 (nI (u - 1)) q = υ q := fun q hq => by funext i; rw [pf_at, if_neg hq]
    have hx : ∀ q, q ≠ 0 → q ≠ 12 → pf (pf μ 0 0) 12 (nI (u - 1)) q = μ q := fun q h0 h12 => by
      funext i
      rw [pf_at, if_neg h12, hz q h0]
    refine ⟨nI (u - 1), pf υ 6 (nI (u - 1)), va_up ω 0 σ1, va_up sid 0 (sid (pa (u - 1))), va_up (pf (pf μ 0 0) 12 (nI (u - 1))) 8 (cpf (μ (20 + (u - 1))) (μ 8)), ?_, ?_, ?_, ?_, fun v hv9 => ?_, hp, hi, ?_, u - 1, by omega, ?_, ?_, fun j hj => ?_⟩
    · unfold mX3_undo
      rw [h6, if_pos hle, nI_p h, ob1_e, show pf υ 6 (nI (u - 1)) 6 0 = nI (u - 1) from by rw [pf_at, if_pos rfl], hix_at hu1, ob1_e, hgC, ob1_e, c1, ob1_e, ob1_e, ob1_e]
    · unfold mX4_undo
      rw [ob1_e, h12z, if_neg hne, nI_p h, ob1_e, show pf (pf μ 0 0) 12 (nI (u - 1)) 12 0 = nI (u - 1) from by rw [pf_at, if_pos rfl], hix_at hu1, ob1_e, hx (20 + (u - 1)) (by omega) (by omega), hx 8 (by decide) (by decide), copy_eq hF, ob1_e, ob1_e, va_up_ne _ _ (by decide), pf_at, if_pos rfl]
    · obtain ⟨len, d1, d2, d3, d4⟩ := hbuf
      exact ⟨len, d1, by rw [hup 1 (by decide)]; exact d2, by rw [hm 2 (by decide) (by decide) (by decide)]; exact d3, fun k hk => by rw [hm 1 (by decide) (by decide) (by decide)]; exact d4 k hk⟩
    · rw [hup 2 (by decide), hm 7 (by decide) (by decide) (by decide)]; exact herr
    · by_cases hv0 : v = 0
      · rw [hv0, va_up_self]; exact hs _ hv.2
      · rw [va_up_ne _ _ hv0]; exact hs v hv9
    · rw [va_up_self, va_up_self, va_up_self]
      exact hW.2 _ _ (μ (20 + (u - 1))) _ (fun x hx => cpf_at _ _ _ hx) (hW.1 _ _ _ _ c2 c3 c4 (hpast (u - 1) (by omega)))
    · rw [pf_at, if_pos rfl]
    · rw [va_up_ne _ _ (by decide), pf_at, if_pos rfl]
    · have hj8 := (hp j (by omega)).1
      rw [va_up_ne _ _ (show pa j ≠ 0 by omega), va_up_ne _ _ (show pa j ≠ 0 by omega), hm (20 + j) (by omega) (by omega) (by omega)]
      exact hpast j (by omega)
  · have h0 : u = 0 := by omega
    subst h0
    refine ⟨-1, υ, ω, sid, pf μ 0 0, ?_, ?_, ?_⟩
    · unfold mX3_undo
      rw [h6, if_neg (by decide)]
    · unfold mX4_undo
      rw [ob1_e, h12z, if_pos (by decide)]
    · obtain ⟨len, d1, d2, d3, d4⟩ := hbuf
      exact hI0.same ⟨len, d1, d2, by rw [hz 2 (by decide)]; exact d3, fun k hk => by rw [hz 1 (by decide)]; exact d4 k hk⟩ (by rw [hz 7 (by decide)]; exact herr) rfl (fun q hq => hz q (by omega))
