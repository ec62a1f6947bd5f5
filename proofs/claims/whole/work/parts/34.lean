/-! pure: the reference's journey goes on as the class's does -/
def overP (τ σ : MS) (j : Nat) (p : Int32) : Bool := !exB (fun s => decide (τ 11 s = p) && opn σ s) (An τ j) (En τ j - An τ j)
section MT
variable {τ σ : MS} {w : Nat → Int32} {μ0 μ : MS} {F s j k : Nat} {p v : Int32} {B : Int}
theorem m_isAt (hI : SI τ) (h : MR τ σ w μ0 μ) (hj : j < Jn τ) (hk : An τ j + k < En τ j) : mX4_isAt F μ (nI j) (nI k) p = some (b01 (decide (τ 11 (An τ j + k) = p))) := by
  have hsN := hI.sN hj hk
  unfold mX4_isAt
  rw [h.at hI hj, ob1_e, rS0 (hI.s40 hsN), (h.rs hsN).1, ob1_e]
  by_cases q : τ 11 (An τ j + k) = p <;> simp [q, ob1, b01]
theorem m_settled (hI : SI τ) (h : MR τ σ w μ0 μ) (hj : j < Jn τ) (hk : An τ j + k < En τ j) : mX4_isSettled F μ (nI j) (nI k) = some (b01 (!opn σ (An τ j + k))) := by
  unfold mX4_isSettled opn
  rw [h.st hI hj hk, ob1_e, ob1_e]
  by_cases h3 : σ 9 (An τ j + k) = 3 <;> by_cases h6 : σ 9 (An τ j + k) = 6 <;> simp [h3, h6, ob1, cnd, b01]
theorem m_over (hI : SI τ) (h : MR τ σ w μ0 μ) (hj : j < Jn τ) (hF : 5000 ≤ F) : mX4_isOver F μ (nI j) p = some (b01 (overP τ σ j p)) := by
  have hA := hI.A hj
  have hN := hI.N.2
  have hl := loop_ex (f := fun st : Int32 => mX4_isOver_L2 F (nI j) p μ st) (P := fun i => decide (τ 11 (An τ j + i) = p) && opn σ (An τ j + i)) (r := (0 : Int32)) (lo := 0) (b := En τ j - An τ j) (fun i _ hi => by
    show mX4_isOver_L2 F (nI j) p μ (nI i) = _
    unfold mX4_isOver_L2
    rw [h.cnt hI hj, ob1_e, if_neg (nle (by omega) (by omega) hi), m_isAt hI h hj (by omega), ob1_e, m_settled hI h hj (by omega), ob1_e]
    by_cases h5 : τ 11 (An τ j + i) = p <;> cases opn σ (An τ j + i) <;> simp [h5, cnd, ob1, nI_s, b01]) (by
    show mX4_isOver_L2 F (nI j) p μ (nI (En τ j - An τ j)) = _
    unfold mX4_isOver_L2
    rw [h.cnt hI hj, ob1_e, if_pos (Int32.le_refl _)]) (En τ j - An τ j) 0 F (by omega) (by omega) (by omega)
  unfold mX4_isOver
  have e := exB_sh (fun s => decide (τ 11 s = p) && opn σ s) (An τ j) (En τ j - An τ j) 0
  rw [Nat.add_zero] at e
  rw [i0, hl, e]
  unfold overP
  cases exB (fun s => decide (τ 11 s = p) && opn σ s) (An τ j) (En τ j - An τ j) <;> simp [ob1, el1, b01] <;> rfl
theorem cnt_0 (P : Nat → Bool) (a : Nat) : ∀ n, n ≤ 1000 → ∃ c : Nat, fo (fun s (x : Int32) => x + b01 (P s)) a n 0 = nI c ∧ c ≤ n ∧ (c = 0 ↔ exB P a n = false) := by
  intro n
  induction n with
  | zero => intro _; exact ⟨0, rfl, Nat.le_refl _, by simp [exB]⟩
  | succ n ih =>
    intro hn
    obtain ⟨c, h1, h2, h3⟩ := ih (by omega)
    rw [fo_end, h1]
    have e : exB P a (n + 1) = false ↔ exB P a n = false ∧ P (a + n) = false := by
      rw [exB_F, exB_F]
      constructor
      · intro h; exact ⟨fun s h1 h2 => h s h1 (by omega), h _ (by omega) (by omega)⟩
      · rintro ⟨h, h'⟩ s h1 h2
        by_cases q : s = a + n
        · subst q; exact h'
        · exact h s h1 (by omega)
    rw [e]
    cases hP : P (a + n) with
    | true => exact ⟨c + 1, by rw [← nI_s]; rfl, by omega, by simp⟩
    | false => exact ⟨c, by simp [b01], by omega, by simp [h3]⟩
theorem m_count (hI : SI τ) (h : MR τ σ w μ0 μ) (hj : j < Jn τ) (hF : 5000 ≤ F) : ∃ r, mX4_countAt F μ (nI j) p v = some r ∧ (r = 0 ↔ exB (fun s => decide (τ 11 s = p) && decide (σ 9 s = v)) (An τ j) (En τ j - An τ j) = false) := by
  have hA := hI.A hj
  have hN := hI.N.2
  have hl := loop_up (f := fun st : Int32 × Int32 => mX4_countAt_L6 F (nI j) p v μ st.1 st.2) (fun _ _ => True) (fun i x => x + b01 ((fun s => decide (τ 11 s = p) && decide (σ 9 s = v)) (An τ j + i))) (fun v => v) (En τ j - An τ j) (fun i x hi _ => ⟨by
    show mX4_countAt_L6 F (nI j) p v μ (nI i) x = _
    unfold mX4_countAt_L6
    rw [h.cnt hI hj, ob1_e, if_neg (nle (by omega) (by omega) hi), m_isAt hI h hj (by omega), ob1_e, h.st hI hj (by omega), ob1_e]
    by_cases h5 : τ 11 (An τ j + i) = p <;> by_cases h6 : σ 9 (An τ j + i) = v <;> simp [h5, h6, cnd, ob1, nI_s, b01], trivial⟩) (fun x _ => by
    show mX4_countAt_L6 F (nI j) p v μ (nI (En τ j - An τ j)) x = _
    unfold mX4_countAt_L6
    rw [h.cnt hI hj, ob1_e, if_pos (Int32.le_refl _)]) (En τ j - An τ j) 0 F 0 (by omega) (by omega) trivial
  obtain ⟨c, c1, c2, c3⟩ := cnt_0 (fun s => decide (τ 11 s = p) && decide (σ 9 s = v)) (An τ j) (En τ j - An τ j) (by omega)
  have e := fo_sh (fun s (x : Int32) => x + b01 ((fun s => decide (τ 11 s = p) && decide (σ 9 s = v)) s)) (An τ j) (En τ j - An τ j) 0 0
  rw [Nat.add_zero] at e
  refine ⟨nI c, ?_, ?_⟩
  · unfold mX4_countAt
    rw [i0, show ((nI 0, nI 0) : Int32 × Int32) = (nI 0, 0) from rfl, hl, ob1_e]
    exact congrArg some (e.trans c1)
  · rw [← c3]
    exact nI_i (b := 0) (by omega) (by decide)
theorem m_rest (hI : SI τ) (h : MR τ σ w μ0 μ) (hj : j < Jn τ) (h1 : v ≠ 1) (h2 : v ≠ 2) (h3 : (3 : Int32) ≤ v) : ok (mX4_rest F μ (nI j) v) (fun μ' => MR τ (restF j v σ) w μ0 μ') := by
  have h8 := hI.j8 hj
  unfold mX4_rest restF
  rw [jAt, ob1_e, wJ0 h8, ob1_e, ob1_e, rG0, ob1_e, wJ5 h8, ob1_e, ob1_e, wJ4 h8, ob1_e, u2_8, if_neg (by omega), h.rg.1]
  exact ok_some (h.rest hI hj h1 h2 h3)
theorem m_beU (hI : SI τ) (h : MR τ σ w μ0 μ) (hj : j < Jn τ) : ok (mX4_beUndoing F μ (nI j)) (fun μ' => MR τ (u2 (u2 σ 5 j 2) 8 j 0) w μ0 μ') := by
  have h8 := hI.j8 hj
  unfold mX4_beUndoing
  rw [jAt, ob1_e, wJ0 h8, ob1_e, wJ4 h8, ob1_e, wJ5 h8, ob1_e, wJ7 h8, ob1_e]
  exact ok_some (h.undo hI hj)
theorem rdy_6 {c i : Nat} (hc : c < 9) : rdyF τ j s σ c i = σ c i := rdy_5 hc
theorem m_presL (hI : SI τ) (h : MR τ σ w μ0 μ) (hj : j < Jn τ) (hp : σ 6 j = p) (hF : 5000 ≤ F) : ok (loopM (fun st : Int32 × MS => mX4_present_L14 F (nI j) p st.1 st.2) F ((0 : Int32), μ)) (fun μ' => MR τ (fo (rdyF τ j) (An τ j) (En τ j - An τ j) σ) w μ0 μ') := by
  have hA := hI.A hj
  have hN := hI.N.2
  refine loop_rel (f := fun st : Int32 × MS => mX4_present_L14 F (nI j) p st.1 st.2) (fun i μ => MR τ (fo (rdyF τ j) (An τ j) i σ) w μ0 μ) (En τ j - An τ j) (fun i μ hi h => ?_) (fun μ h => ?_) (En τ j - An τ j) 0 F μ (by omega) (by omega) h
  · show ok (mX4_present_L14 F (nI j) p (nI i) μ) _
    have hsN := hI.sN (s := An τ j + i) hj (by omega)
    have e6 : fo (rdyF τ j) (An τ j) i σ 6 j = p := (fo_keep (fun x : MS => x 6 j) (fun s x => rdy_5 (by decide)) i (An τ j) σ).trans hp
    have h40 := hI.s40 hsN
    have hs := h.rs hsN
    unfold mX4_present_L14 mX4_beReady
    rw [h.cnt hI hj, ob1_e, if_neg (nle (by omega) (by omega) hi), h.at hI hj, ob1_e, rS0 h40, hs.1, ob1_e, rS4 h40, hs.2.2.2.2.1, ob1_e, wS4 h40, ob1_e, wS8 h40, ob1_e, ob1_e]
    have e : fo (rdyF τ j) (An τ j) (i + 1) σ = rdyF τ j (An τ j + i) (fo (rdyF τ j) (An τ j) i σ) := fo_end _ _ _ _
    rw [e]
    generalize fo (rdyF τ j) (An τ j) i σ = σ1 at h e6 hs ⊢
    unfold rdyF prs
    rw [e6]
    by_cases q1 : τ 11 (An τ j + i) = p
    · by_cases q2 : σ1 9 (An τ j + i) = 0
      · simp only [q1, q2, if_true, ob1_e, cnd_T, decide_true, Bool.and_self, nI_s]
        exact ok_some ⟨_, rfl, h.ready hI hsN⟩
      · simp only [q1, q2, if_true, if_false, ob1_e, cnd_F, decide_true, decide_false, Bool.and_false, nI_s, Bool.false_eq_true]
        exact ok_some ⟨_, rfl, h⟩
    · simp only [q1, if_false, ob1_e, cnd_F, decide_false, Bool.false_and, nI_s, Bool.false_eq_true]
      exact ok_some ⟨_, rfl, h⟩
  · show ok (mX4_present_L14 F (nI j) p (nI (En τ j - An τ j)) μ) _
    unfold mX4_present_L14
    rw [h.cnt hI hj, ob1_e, if_pos (Int32.le_refl _)]
    exact ok_some ⟨_, rfl, h⟩
/-- the next stage, or the journey is done -/
theorem m_goOnE (hI : SI τ) (h : MR τ σ w μ0 μ) (hj : j < Jn τ) (h1 : σ 5 j = 1) {q : Nat} (hq : σ 6 j = nI q) (hC : q < Cn τ j) (hF : 5000 ≤ F) : ok (ob1 (mX4_ofJourney F μ (nI j) (2 : Int32)) fun r72 => ob1 (if (nI q + (1 : Int32)) = r72 then ob1 (mX4_rest F μ (nI j) (3 : Int32)) fun μ78 => some μ78 else ob1 (mX4_present F μ (nI j) (nI q + (1 : Int32))) fun μ77 => some μ77) fun μ73 => some μ73) (fun μ' => MR τ (entF τ j (σ 6 j + 1) σ) w μ0 μ') := by
  have h8 := hI.j8 hj
  have hC2 := hI.C hj
  have hj2 := (h.rj hj).2.2.1
  rw [ofJ2 h8, hj2, ob1_e, hC2.1, hq, nI_s]
  unfold entF
  rw [hC2.1]
  by_cases he : q + 1 = Cn τ j
  · rw [if_pos (by rw [he]), if_neg (by rw [he]; exact Int32.lt_irrefl)]
    obtain ⟨μ', e1, e2⟩ := m_rest (F := F) (v := 3) hI h hj (by decide) (by decide) (by decide)
    rw [e1, ob1_e, ob1_e]
    exact ok_some e2
  · rw [if_neg (fun q2 => he ((nI_i (by omega) (by omega)).mp q2)), if_pos ((nI_ltI (by omega) (by omega)).mpr (by omega))]
    unfold mX4_present
    rw [jAt, ob1_e, wJ4 h8, ob1_e]
    obtain ⟨μ', e1, e2⟩ := m_presL (F := F) (p := nI (q + 1)) hI (h.pres (v := nI (q + 1)) hI hj h1) hj (u2_s _ _ _ _) hF
    rw [e1, ob1_e, ob1_e, ob1_e]
    exact ok_some e2
end MT
