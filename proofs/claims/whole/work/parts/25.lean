/-! pure: the last step that is done, on the reference's side; what the numbers tell -/
theorem loop_d1 {f : Int32 → Option (Int32 ⊕ Int32)} {P : Nat → Bool} {b : Nat} (hs : ∀ m, m < b → f (nI (m + 1) - 1) = some (if P m then .inl (nI m) else .inr (nI m - 1))) (hx : f (nI 0 - 1) = some (.inl (-1))) : ∀ (n fu : Nat), n ≤ b → n < fu → loopM f fu (nI n - 1) = some (oI (lst P 0 n 0)) := by
  intro n
  induction n with
  | zero =>
    intro fu h1 h2
    obtain ⟨fu, rfl⟩ : ∃ k, fu = k + 1 := ⟨fu - 1, by omega⟩
    rw [loopM_l hx]; rfl
  | succ n ih =>
    intro fu h1 h2
    obtain ⟨fu, rfl⟩ : ∃ k, fu = k + 1 := ⟨fu - 1, by omega⟩
    have hs1 := hs n (by omega)
    unfold lst
    rw [Nat.zero_add]
    by_cases hP : P n = true
    · rw [if_pos hP] at hs1
      rw [loopM_l hs1, if_pos hP, if_pos rfl]; rfl
    · rw [if_neg hP] at hs1
      rw [loopM_r hs1, if_neg hP]
      exact ih fu (by omega) (by omega)
theorem m1_lt0 : (nI 0 - 1 : Int32) < 0 := by decide
theorem nI_nl0 {m : Nat} (h : m < 2 ^ 31) : ¬ nI m < (0 : Int32) := fun q => absurd ((nI_ltI (b := 0) h (by omega)).mp q) (by omega)
section CO
variable {τ σ : MS} {w : Nat → Int32} {μ0 μ : MS} {F s j : Nat} {k p : Int32}
theorem lsd_sh (τ σ : MS) (j q : Nat) : lst (fun i => decide (σ 9 (An τ j + i) = 3)) 0 (En τ j - An τ j) q = (lsd τ σ j q).map (fun s => s - An τ j) := by
  have := lst_sh (fun s => decide (σ 9 s = 3)) (An τ j) 0 (En τ j - An τ j) q
  rw [Nat.add_zero] at this
  exact this
theorem m_lsd (hI : SI τ) (h : MR τ σ w μ0 μ) (hj : j < Jn τ) (hF : 5000 ≤ F) : mX4_lastDone F μ (nI j) = some (oI ((lsd τ σ j 0).map (fun s => s - An τ j))) := by
  have hA := hI.A hj
  have hN := hI.N.2
  unfold mX4_lastDone
  rw [h.cnt hI hj, ob1_e]
  have hl := loop_d1 (f := fun st : Int32 => mX4_lastDone_L9 F (nI j) μ st) (P := fun i => decide (σ 9 (An τ j + i) = 3)) (b := En τ j - An τ j) (fun m hm => by
    show mX4_lastDone_L9 F (nI j) μ (nI (m + 1) - 1) = _
    unfold mX4_lastDone_L9
    rw [nI_m1 (by omega), Nat.add_sub_cancel, if_neg (nI_nl0 (by omega)), h.st hI hj (by omega), ob1_e]
    by_cases q : σ 9 (An τ j + m) = 3
    · simp [q, ob1, cnd]
    · simp only [q, if_false, ob1_e, cnd_T, decide_false, Bool.false_eq_true]
      rw [Int32.sub_eq_add_neg]) (by
    show mX4_lastDone_L9 F (nI j) μ (nI 0 - 1) = _
    unfold mX4_lastDone_L9
    rw [if_pos m1_lt0, ob1_e, cnd_F]; rfl) (En τ j - An τ j) F (Nat.le_refl _) (by omega)
  rw [hl, lsd_sh]
  rfl
theorem m_owedL (hI : SI τ) (h : MR τ σ w μ0 μ) (hj : j < Jn τ) (hF : 5000 ≤ F) {q : Nat} (hq : q < 2 ^ 31) : loopM (fun st : Int32 × Int32 => mX4_owed_L27 F (nI j) (nI q) μ st.1 st.2) F (nI (En τ j - An τ j) - 1, nI q) = some (match lsd τ σ j q with | none => .inr () | some s => .inl (nI (s - An τ j), μ)) := by
  have hA := hI.A hj
  have hN := hI.N.2
  have hl := loop_dn (f := fun st : Int32 × Int32 => mX4_owed_L27 F (nI j) (nI q) μ st.1 st.2) (P := fun i => decide (σ 9 (An τ j + i) = 3)) (out := fun o => match o with | none => Sum.inr () | some s => Sum.inl (nI s, μ)) (a := 0) (b := En τ j - An τ j) (fun m p h1 h2 hp => by
    show mX4_owed_L27 F (nI j) (nI q) μ (nI (m + 1) - 1) (nI p) = _
    unfold mX4_owed_L27
    rw [nI_m1 (by omega), Nat.add_sub_cancel, if_neg (nI_nl0 (by omega)), if_neg (nI_nl0 hq), ob1_e, cnd_T, h.st hI hj (by omega), ob1_e]
    by_cases q : σ 9 (An τ j + m) = 3
    · by_cases q2 : p = 0
      · subst q2; simp [q]; rfl
      · have : ¬ nI p = 0 := fun q3 => q2 ((nI_i hp (b := 0) (by omega)).mp q3)
        simp only [q, if_true, this, if_false, decide_true, q2, nI_m1' (show 1 ≤ p by omega)]
        rw [Int32.sub_eq_add_neg]
    · simp only [q, if_false, decide_false, Bool.false_eq_true]
      rw [Int32.sub_eq_add_neg]) (fun p => by
    show mX4_owed_L27 F (nI j) (nI q) μ (nI 0 - 1) p = _
    unfold mX4_owed_L27
    rw [if_pos m1_lt0, ob1_e, cnd_F]) (En τ j - An τ j) F q (by omega) (by omega) hq
  rw [Nat.zero_add] at hl
  rw [hl, lsd_sh]
  cases lsd τ σ j q <;> rfl
theorem c_rests (hI : SI τ) (hj : j < Jn τ) (hb : bd (σ 5 j) 0 5) : mX2_rests F τ σ (nI j) = some (b01 (decide ((3 : Int32) ≤ σ 5 j))) := by
  unfold mX2_rests
  rw [c_ended hI hj, ob1_e]
  simp only [r8 hI hj, ob1_e]
  obtain ⟨e, h1, h2⟩ := hb.nI (by decide)
  have : ∀ n : Nat, n ≤ 5 → ((ob1 (ob1 (if b01 (decide (nI n = 3 ∨ nI n = 4)) = 0 then if nI n = 5 then some true else some false else some true) fun t7 => cnd t7 (some (1 : Int32)) (some 0)) fun v3 => some v3) = some (b01 (decide ((3 : Int32) ≤ nI n)))) := by decide +kernel
  unfold ended
  rw [e]
  exact this _ (by omega)
theorem m_rests (hI : SI τ) (h : MR τ σ w μ0 μ) (hj : j < Jn τ) : mX4_rests F μ (nI j) = some (b01 (decide ((3 : Int32) ≤ σ 5 j))) := by
  unfold mX4_rests
  rw [h.jst hI hj, ob1_e]
  by_cases q : σ 5 j < 3
  · rw [if_pos q, ob1_e, show decide ((3 : Int32) ≤ σ 5 j) = false from decide_eq_false (Int32.not_le.mpr q)]; rfl
  · rw [if_neg q, ob1_e, show decide ((3 : Int32) ≤ σ 5 j) = true from decide_eq_true (Int32.not_lt.mp q)]; rfl
/-- told of all: alike -/
theorem t_all (hI : SI τ) (h : MR τ σ w μ0 μ) (hF : 5000 ≤ F) {q : Nat} (hq : q < 10) : ∃ r, mX2_numberOfAll F τ σ (nI q) = some r ∧ mX4_told F μ (nI q) = some r := by
  obtain ⟨g0, g1, g2, g3, g4, g5, g6⟩ := h.rg
  unfold mX2_numberOfAll mX4_told
  rcases (show q = 0 ∨ q = 1 ∨ q = 2 ∨ q = 3 ∨ q = 4 ∨ q = 5 ∨ q = 6 ∨ q = 7 ∨ q = 8 ∨ q = 9 by omega) with rfl | rfl | rfl | rfl | rfl | rfl | rfl | rfl | rfl | rfl
  · exact ⟨σ 1 0, rfl, by show ob1 (ob1 (rd (μ 8) 451 0) _) _ = _; rw [rG0, g0]; rfl⟩
  · exact ⟨τ 2 0, rfl, by show ob1 (ob1 (rd (μ 8) 451 1) _) _ = _; rw [rG1, g1]; rfl⟩
  · exact ⟨τ 5 0, rfl, by show ob1 (ob1 (rd (μ 8) 451 2) _) _ = _; rw [rG2, g2]; rfl⟩
  · exact ⟨τ 10 0, rfl, by show ob1 (ob1 (rd (μ 8) 451 3) _) _ = _; rw [rG3, g3]; rfl⟩
  · exact ⟨τ 0 0, rfl, by show ob1 (ob1 (rd (μ 8) 451 4) _) _ = _; rw [rG4, g4]; rfl⟩
  · exact ⟨τ 1 0, rfl, by show ob1 (ob1 (rd (μ 8) 451 5) _) _ = _; rw [rG5, g5]; rfl⟩
  · exact ⟨jin τ σ 3, by show ob1 (mX2_journeysIn F τ σ 3) _ = _; rw [c_jin hI hF]; rfl, by show ob1 (ob1 (mX4_countOf F μ 3) _) _ = _; rw [m_jin hI h hF]; rfl⟩
  · exact ⟨jin τ σ 4, by show ob1 (mX2_journeysIn F τ σ 4) _ = _; rw [c_jin hI hF]; rfl, by show ob1 (ob1 (mX4_countOf F μ 4) _) _ = _; rw [m_jin hI h hF]; rfl⟩
  · exact ⟨jin τ σ 5, by show ob1 (mX2_journeysIn F τ σ 5) _ = _; rw [c_jin hI hF]; rfl, by show ob1 (ob1 (mX4_countOf F μ 5) _) _ = _; rw [m_jin hI h hF]; rfl⟩
  · exact ⟨σ 2 0, rfl, by show ob1 (ob1 (rd (μ 8) 451 6) _) _ = _; rw [rG6, g6]; rfl⟩
/-- told of a stock: alike -/
theorem t_stock (hI : SI τ) (h : MR τ σ w μ0 μ) (hF : 5000 ≤ F) {q k : Nat} (hk : k < Sn τ) (hq : q < 6) : ∃ r, mX2_numberOfStock F τ σ (nI k) (nI q) = some r ∧ mX4_toldStock F μ (nI k) (nI q) = some r := by
  obtain ⟨k1, k2⟩ := h.rk hk
  unfold mX2_numberOfStock mX4_toldStock
  rcases (show q = 0 ∨ q = 1 ∨ q = 2 ∨ q = 3 ∨ q = 4 ∨ q = 5 by omega) with rfl | rfl | rfl | rfl | rfl | rfl
  · exact ⟨σ 3 k, by show ob1 (rd (σ 3) 6 (nI k)) _ = _; rw [r6 hI hk]; rfl, by show ob1 (ob1 (rd (μ 8) 451 (((7 : Int32) + ((2 : Int32) * nI k)) + (0 : Int32))) _) _ = _; rw [rK0 (hI.k6 hk), k1]; rfl⟩
  · exact ⟨τ 4 k, by show ob1 (rd (τ 4) 6 (nI k)) _ = _; rw [r6 hI hk]; rfl, by show ob1 (ob1 (rd (μ 8) 451 (((7 : Int32) + ((2 : Int32) * nI k)) + (1 : Int32))) _) _ = _; rw [rK1 (hI.k6 hk), k2]; rfl⟩
  · exact ⟨holders τ σ (nI k), by show ob1 (mX2_holdersOf F τ σ (nI k)) _ = _; rw [c_holders hI hF]; rfl, by show ob1 (ob1 (mX4_holders F μ (nI k)) _) _ = _; rw [m_holders hI h hF]; rfl⟩
  · exact ⟨sums τ (gOp τ σ (nI k)), by show ob1 (mX2_amountInOpenJourneys F τ σ (nI k)) _ = _; rw [c_open hI hF]; rfl, by show ob1 (ob1 (mX4_sumOf F μ (nI k) 3) _) _ = _; rw [m_sums hI h hF]; rfl⟩
  · exact ⟨sums τ (gDn τ σ (nI k)), by show ob1 (mX2_amountInDoneJourneys F τ σ (nI k)) _ = _; rw [c_done hI hF]; rfl, by show ob1 (ob1 (mX4_sumOf F μ (nI k) 4) _) _ = _; rw [m_sums hI h hF]; rfl⟩
  · exact ⟨sums τ (fun _ => gWo τ σ (nI k)), by show ob1 (mX2_amountWrittenOff F τ σ (nI k)) _ = _; rw [c_woff hI hF]; rfl, by show ob1 (ob1 (mX4_sumOf F μ (nI k) 5) _) _ = _; rw [m_sums hI h hF]; rfl⟩
theorem c_stepsOf (hI : SI τ) (hj : j < Jn τ) : mX0_stepsOf F τ (nI j) = some (nI (En τ j - An τ j)) := by
  have hA := hI.A hj
  unfold mX0_stepsOf
  rw [rE hI hj, ob1_e, rA hI hj, ob1_e, nI_d (by omega)]
/-- told of a journey: alike -/
theorem t_journey (hI : SI τ) (h : MR τ σ w μ0 μ) (hF : 5000 ≤ F) {q : Nat} (hj : j < Jn τ) (hb : bd (σ 5 j) 0 5) (hq : q < 7) : ∃ r, mX2_numberOfJourney F τ σ (nI j) (nI q) = some r ∧ mX4_toldJourney F μ (nI j) (nI q) = some r := by
  have h8 := hI.j8 hj
  obtain ⟨a1, a2, a3, a4, a5, a6, a7, a8, a9, a10⟩ := h.rj hj
  unfold mX2_numberOfJourney mX4_toldJourney
  rcases (show q = 0 ∨ q = 1 ∨ q = 2 ∨ q = 3 ∨ q = 4 ∨ q = 5 ∨ q = 6 by omega) with rfl | rfl | rfl | rfl | rfl | rfl | rfl
  · exact ⟨σ 5 j, by show ob1 (rd (σ 5) 8 (nI j)) _ = _; rw [r8 hI hj]; rfl, by show ob1 (mX4_ofJourney F μ (nI j) 0) _ = _; rw [ofJ0 h8, a1]; rfl⟩
  · exact ⟨τ 6 j, by show ob1 (rd (τ 6) 8 (nI j)) _ = _; rw [r8 hI hj]; rfl, by show ob1 (mX4_ofJourney F μ (nI j) 1) _ = _; rw [ofJ1 h8, a2]; rfl⟩
  · exact ⟨τ 7 j, by show ob1 (rd (τ 7) 8 (nI j)) _ = _; rw [r8 hI hj]; rfl, by show ob1 (mX4_ofJourney F μ (nI j) 2) _ = _; rw [ofJ2 h8, a3]; rfl⟩
  · exact ⟨nI (En τ j - An τ j), by show ob1 (mX0_stepsOf F τ (nI j)) _ = _; rw [c_stepsOf hI hj]; rfl, by show ob1 (mX4_ofJourney F μ (nI j) 3) _ = _; rw [ofJ3 h8, a4]; rfl⟩
  · refine ⟨if σ 5 j = 1 then σ 6 j else -1, ?_, ?_⟩
    · show ob1 (rd (σ 5) 8 (nI j)) (fun x10 => ob1 (if x10 = (1 : Int32) then ob1 (rd (σ 6) 8 (nI j)) fun x15 => some x15 else some (-1 : Int32)) fun v11 => some v11) = _
      rw [r8 hI hj, r8 hI hj, ob1_e, ob1_e]
      by_cases q : σ 5 j = 1 <;> simp [q, ob1]
    · show ob1 (mX4_ofJourney F μ (nI j) 4) _ = _
      rw [ofJ4 h8, ob1_e]
      by_cases q : σ 5 j = 1
      · rw [a5 q, if_pos q]
      · rw [a6 q, if_neg q]
  · refine ⟨if (3 : Int32) ≤ σ 5 j then σ 7 j else -1, ?_, ?_⟩
    · show ob1 (mX2_rests F τ σ (nI j)) (fun r17 => ob1 (if r17 = 0 then some (-1 : Int32) else ob1 (rd (σ 7) 8 (nI j)) fun x23 => some x23) fun v19 => some v19) = _
      rw [c_rests hI hj hb, r8 hI hj, ob1_e, ob1_e]
      by_cases q : (3 : Int32) ≤ σ 5 j <;> simp [q, ob1, b01]
    · show ob1 (mX4_ofJourney F μ (nI j) 5) _ = _
      rw [ofJ5 h8, ob1_e]
      by_cases q : (3 : Int32) ≤ σ 5 j
      · rw [a7 q, if_pos q]
      · rw [a8 q, if_neg q]
  · refine ⟨owes τ σ j, ?_, ?_⟩
    · show ob1 (mX2_amountOwed F τ σ (nI j)) _ = _; rw [c_owes hI hj hF]; rfl
    · show ob1 (mX4_ofJourney F μ (nI j) 0) (fun r2 => ob1 (loopM (fun st : Int32 × Int32 => mX4_toldJourney_L26 F r2 (nI j) μ st.1 st.2) F ((0 : Int32), (0 : Int32))) fun v21 => some v21) = _
      rw [ofJ0 h8, a1, ob1_e, m_owes hI h hj hF]; rfl
/-- told of a step: alike -/
theorem t_step (hI : SI τ) (h : MR τ σ w μ0 μ) {q : Nat} (hs : s < Nn τ) (hq : q < 7) : ∃ r, mX2_numberOfStep F τ σ (nI s) (nI q) = some r ∧ rd (μ 8) 451 (nI (91 + 9 * s) + nI q) = some r := by
  have h8 := hI.s40 hs
  obtain ⟨a1, a2, a3, a4, a5, a6, a7, a8, a9, a10⟩ := h.rs hs
  unfold mX2_numberOfStep
  rcases (show q = 0 ∨ q = 1 ∨ q = 2 ∨ q = 3 ∨ q = 4 ∨ q = 5 ∨ q = 6 by omega) with rfl | rfl | rfl | rfl | rfl | rfl | rfl
  · exact ⟨τ 11 s, by show ob1 (rd (τ 11) 40 (nI s)) _ = _; rw [r40 hI hs]; rfl, by rw [← a1]; exact rS0 h8⟩
  · exact ⟨τ 12 s, by show ob1 (rd (τ 12) 40 (nI s)) _ = _; rw [r40 hI hs]; rfl, by rw [← a2]; exact rS1 h8⟩
  · exact ⟨τ 13 s, by show ob1 (rd (τ 13) 40 (nI s)) _ = _; rw [r40 hI hs]; rfl, by rw [← a3]; exact rS2 h8⟩
  · exact ⟨τ 14 s, by show ob1 (rd (τ 14) 40 (nI s)) _ = _; rw [r40 hI hs]; rfl, by rw [← a4]; exact rS3 h8⟩
  · exact ⟨σ 9 s, by show ob1 (rd (σ 9) 40 (nI s)) _ = _; rw [r40 hI hs]; rfl, by rw [← a5]; exact rS4 h8⟩
  · exact ⟨σ 10 s, by show ob1 (rd (σ 10) 40 (nI s)) _ = _; rw [r40 hI hs]; rfl, by rw [← a6]; exact rS5 h8⟩
  · exact ⟨σ 11 s, by show ob1 (rd (σ 11) 40 (nI s)) _ = _; rw [r40 hI hs]; rfl, by rw [← a7]; exact rS6 h8⟩
end CO
