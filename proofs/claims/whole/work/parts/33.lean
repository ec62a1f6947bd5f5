/-! pure: the reference's tick does to its row what the class's does to its world -/
section MT
variable {τ σ : MS} {w : Nat → Int32} {μ0 μ : MS} {F s j k : Nat} {p v : Int32} {B : Int}
theorem m_levelAt (hI : SI τ) (h : MR τ σ w μ0 μ) (hs : s < Nn τ) : mX4_levelAt F μ (nI (91 + 9 * s)) = some (((7 : Int32) + ((2 : Int32) * nI (Kn τ s))) + (0 : Int32)) := by
  unfold mX4_levelAt
  rw [rS1 (hI.s40 hs), (h.rs hs).2.1, (hI.K hs).1, ob1_e]
theorem m_go (hI : SI τ) (hB : B ≤ 2147480000) (h : MR τ σ w μ0 μ) (hV : LV B τ σ) (hj : j < Jn τ) (hk : An τ j + k < En τ j) (h51 : σ 5 j = 1) (hF : 5000 ≤ F) : ok (mX4_go F μ (nI j) (nI k)) (fun μ' => MR τ (stepF τ j (An τ j + k) σ) w μ0 μ') := by
  have hat := h.at (F := F) (k := k) hI hj
  have hsN := hI.sN hj hk
  generalize An τ j + k = s at hat hsN
  have h40 := hI.s40 hsN
  obtain ⟨a1, a2, a3, a4, a5, a6, a7, a8, a9, a10⟩ := h.rs hsN
  have hK := hI.K hsN
  obtain ⟨k1, k2⟩ := h.rk hK.2.1
  have hk6 := hI.k6 hK.2.1
  unfold mX4_go stepF
  rw [hat, ob1_e, rS1 h40, a2, ob1_e, rS4 h40, a5, ob1_e]
  by_cases h2 : σ 9 s = 2
  · rw [if_pos h2, if_pos h2, rG0, h.rg.1, ob1_e, rS8 h40, a9 h2, ob1_e, rS3 h40, a4, ob1_e]
    by_cases h3 : σ 1 0 - σ 12 s < τ 14 s
    · rw [if_pos h3, if_pos h3, ob1_e, cnd_F, ob1_e, if_neg (by rw [h2]; decide), ob1_e]
      exact ok_some h
    · rw [if_neg h3, if_neg h3, ob1_e, cnd_T, wS4 h40, ob1_e, ob1_e]
      exact ok_some (h.state hI hsN (by decide) (by decide))
  · rw [if_neg h2, if_neg h2, ob1_e, cnd_F, ob1_e]
    by_cases h1 : σ 9 s = 1
    · rw [if_pos h1, if_pos h1, m_holds hI h hj hF, ob1_e, m_holders hI h hF, ob1_e, hK.1, rK1 hk6, k2, ob1_e, rS8 h40, a10 h1, ob1_e, rG4, h.rg.2.2.2.2.1, ob1_e, ob1_e]
      have hnot : ok (ob1 (mX4_levelAt F μ (nI (91 + 9 * s))) fun r31 => ob1 (rd (μ 8) 451 r31) fun x32 => ob1 (rd (μ 8) 451 (nI (91 + 9 * s) + (2 : Int32))) fun x33 => (if x33 ≤ x32 then ob1 (mX4_levelAt F μ (nI (91 + 9 * s))) fun r35 => ob1 (rd (μ 8) 451 r35) fun x36 => ob1 (rd (μ 8) 451 (nI (91 + 9 * s) + (2 : Int32))) fun x37 => ob1 (wra μ 8 451 r35 (x36 - x37)) fun μ38 => ob1 (wra μ38 8 451 (nI (91 + 9 * s) + (4 : Int32)) (2 : Int32)) fun μ39 => ob1 (rd (μ39 8) 451 (0 : Int32)) fun x40 => ob1 (wra μ39 8 451 (nI (91 + 9 * s) + (8 : Int32)) x40) fun μ41 => some μ41 else ob1 (rd (μ 8) 451 (nI (91 + 9 * s) + (6 : Int32))) fun x42 => (if x42 ≤ 0 then ob1 (wra μ 8 451 (nI (91 + 9 * s) + (4 : Int32)) (4 : Int32)) fun μ44 => some μ44 else ob1 (rd (μ 8) 451 (nI (91 + 9 * s) + (6 : Int32))) fun x45 => ob1 (wra μ 8 451 (nI (91 + 9 * s) + (6 : Int32)) (x45 - (1 : Int32))) fun μ46 => some μ46))) (fun μ' => MR τ (takeF τ s (Kn τ s) σ) w μ0 μ') := by
        have hv := hV (Kn τ s) hK.2.1
        have ha := hK.2.2.1
        obtain ⟨v1, v2⟩ := hv
        obtain ⟨b1, b2⟩ := ha
        simp only [m_levelAt hI h hsN, ob1_e, rK0 hk6, k1, rS2 h40, a3]
        unfold takeF
        by_cases h4 : τ 13 s ≤ σ 3 (Kn τ s)
        · have h5 : ¬ 0 < τ 13 s - σ 3 (Kn τ s) := by
            rw [ltI, sI (by omega) (by omega), show (0 : Int32).toInt = 0 from rfl]
            rw [leI] at h4; omega
          rw [if_pos h4, if_neg h5, wK0 hk6, ob1_e, wS4 h40, ob1_e, rG0, ob1_e, wS8 h40, ob1_e, u2_8, if_neg (by omega), u2_8, if_neg (by omega), h.rg.1]
          exact ok_some ((h.level hI hK.2.1).runs hI hsN)
        · have h5 : 0 < τ 13 s - σ 3 (Kn τ s) := by
            rw [ltI, sI (by omega) (by omega), show (0 : Int32).toInt = 0 from rfl]
            rw [leI] at h4; omega
          rw [if_neg h4, if_pos h5, rS6 h40, a7, ob1_e]
          by_cases h6 : σ 11 s ≤ 0
          · rw [if_pos h6, if_pos h6, wS4 h40, ob1_e]
            exact ok_some ((h.lack hI).state hI hsN (by decide) (by decide))
          · rw [if_neg h6, if_neg h6, ob1_e, wS6 h40, ob1_e]
            exact ok_some ((h.lack hI).rep hI hsN)
      obtain ⟨μ', e1, e2⟩ := hnot
      rw [e1, wS4 h40, wS8 h40, ob1_e, ob1_e]
      have he : ended σ j = false := by unfold ended; rw [h51]; decide
      cases hh : hold τ σ j (nI (Kn τ s)) with
      | true =>
        rw [he, if_neg (by decide), ob1_e, cnd_F, ob1_e, if_neg (by simp)]
        exact ok_some e2
      | false =>
        rw [Bool.and_false, if_pos (by decide)]
        by_cases h4 : holders τ σ (nI (Kn τ s)) < τ 4 (Kn τ s)
        · rw [if_pos h4, ob1_e, cnd_F, ob1_e, if_neg (by simp [h4])]
          exact ok_some e2
        · have hc : false = false ∧ ¬ holders τ σ (nI (Kn τ s)) < τ 4 (Kn τ s) := ⟨rfl, h4⟩
          rw [if_neg h4, ob1_e, cnd_T, if_pos hc]
          by_cases h5 : σ 13 s < τ 0 0
          · rw [if_pos h5, if_pos h5, ob1_e]
            exact ok_some (h.wait hI hsN h1)
          · rw [if_neg h5, if_neg h5, ob1_e]
            exact ok_some (h.state hI hsN (by decide) (by decide))
    · rw [if_neg h1, if_neg h1, ob1_e]
      exact ok_some h
end MT
