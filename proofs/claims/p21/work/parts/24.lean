/-! pure: counts and sums: both sides say the same -/
def jin (τ σ : MS) (p : Int32) : Int32 := fo (fun j v => v + b01 (decide (σ 5 j = p))) 0 (Jn τ) 0
/-- the sum of g over the steps of journey j -/
def sj (τ : MS) (g : Nat → Int32) (j : Nat) (x : Int32) : Int32 := fo (fun s v => v + g s) (An τ j) (En τ j - An τ j) x
theorem fo_add (g : Nat → Int32) : ∀ (n a : Nat) (x : Int32), fo (fun s v => v + g s) a n x = x + fo (fun s v => v + g s) a n 0 := by
  intro n
  induction n with
  | zero => intro a x; simp [fo]
  | succ n ih =>
    intro a x
    show fo (fun s v => v + g s) (a + 1) n (x + g a) = x + fo (fun s v => v + g s) (a + 1) n (0 + g a)
    rw [ih, ih (a + 1) (0 + g a), Int32.zero_add, Int32.add_assoc]
theorem taken_sj (τ σ : MS) (j : Nat) (k : Int32) : taken τ σ j k = sj τ (fun s => if hst τ σ k s then τ 13 s else 0) j 0 := by
  unfold taken sj
  refine fo_congr (fun s v _ _ => ?_)
  by_cases h : hst τ σ k s = true <;> simp [h]
theorem fo_zero : ∀ (n a : Nat) (x : Int32), fo (fun (_ : Nat) (v : Int32) => v + 0) a n x = x := fun n a x => fo_id (fun s _ _ => by simp)
def gOp (τ σ : MS) (k : Int32) (j s : Nat) : Int32 := if hst τ σ k s && !ended σ j then τ 13 s else 0
def gDn (τ σ : MS) (k : Int32) (j s : Nat) : Int32 := if hst τ σ k s && decide (σ 5 j = 3) then τ 13 s else 0
def gWo (τ σ : MS) (k : Int32) (s : Nat) : Int32 := if decide (τ 12 s = k) && decide (σ 9 s = 6) then τ 13 s else 0
def gOw (τ σ : MS) (s : Nat) : Int32 := if decide (σ 9 s = 3) then τ 13 s else 0
theorem nest {τ : MS} (hI : SI τ) (g : Nat → Int32 → Int32) (x : Int32) : ∀ j, j ≤ Jn τ → fo (fun j v => fo g (An τ j) (En τ j - An τ j) v) 0 j x = fo g 0 (Bn τ j) x := by
  intro j
  induction j with
  | zero => intro _; rw [hI.B0]; rfl
  | succ j ih =>
    intro hj
    have hA := hI.A (j := j) (by omega)
    have e : Bn τ j = An τ j := by unfold Bn; rw [if_pos (by omega)]
    rw [fo_end, ih (by omega), ← hI.B (j := j) (by omega), e, Nat.zero_add]
    have := fo_cat g (An τ j) (En τ j - An τ j) 0 x
    rw [Nat.zero_add, show An τ j + (En τ j - An τ j) = En τ j by omega] at this
    exact this.symm
section CO
variable {τ σ : MS} {w : Nat → Int32} {μ0 μ : MS} {F s j : Nat} {k p : Int32}
theorem c_jin (hI : SI τ) (hF : 5000 ≤ F) : mX2_journeysIn F τ σ p = some (jin τ σ p) := by
  have hJ := hI.J
  unfold mX2_journeysIn
  have hl := loop_up (f := fun st : Int32 × Int32 => mX2_journeysIn_L4 F p τ σ st.1 st.2) (fun _ _ => True) (fun j v => v + b01 (decide (σ 5 j = p))) (fun v => v) (Jn τ) (fun j v hj _ => ⟨by
    show mX2_journeysIn_L4 F p τ σ (nI j) v = _
    unfold mX2_journeysIn_L4
    rw [hJ.1, if_neg (nle (by omega) (by omega) hj), r8 hI hj, ob1_e]
    by_cases q : σ 5 j = p <;> simp [q, ob1, nI_s, b01], trivial⟩) (fun v _ => by
    show mX2_journeysIn_L4 F p τ σ (nI (Jn τ)) v = _
    unfold mX2_journeysIn_L4
    rw [hJ.1, if_pos (Int32.le_refl _)]) (Jn τ) 0 F 0 (by omega) (by omega) trivial
  rw [show (0 : Int32) = nI 0 from rfl, show ((nI 0, nI 0) : Int32 × Int32) = (nI 0, 0) from rfl, hl]
  rfl
/-- the sums over all journeys -/
def sums (τ : MS) (g : Nat → Nat → Int32) : Int32 := fo (fun j v => sj τ (g j) j v) 0 (Jn τ) 0
theorem sums_add (τ : MS) (g : Nat → Nat → Int32) : sums τ g = fo (fun j v => v + sj τ (g j) j 0) 0 (Jn τ) 0 := fo_congr (fun j v _ _ => fo_add _ _ _ _)
theorem c_open (hI : SI τ) (hF : 5000 ≤ F) : mX2_amountInOpenJourneys F τ σ k = some (sums τ (gOp τ σ k)) := by
  have hJ := hI.J
  unfold mX2_amountInOpenJourneys
  have hl := loop_up (f := fun st : Int32 × Int32 => mX2_amountInOpenJourneys_L4 F k τ σ st.1 st.2) (fun _ _ => True) (fun j v => v + sj τ (gOp τ σ k j) j 0) (fun v => v) (Jn τ) (fun j v hj _ => ⟨by
    show mX2_amountInOpenJourneys_L4 F k τ σ (nI j) v = _
    unfold mX2_amountInOpenJourneys_L4
    rw [hJ.1, if_neg (nle (by omega) (by omega) hj), c_ended hI hj, ob1_e, c_taken hI hj hF, taken_sj]
    have e : sj τ (gOp τ σ k j) j 0 = if ended σ j = true then 0 else sj τ (fun s => if hst τ σ k s then τ 13 s else 0) j 0 := by
      unfold gOp
      cases ended σ j
      · simp
      · simp only [Bool.not_true, Bool.and_false, if_true, Bool.false_eq_true, if_false]
        exact fo_zero _ _ _
    rw [e]
    cases ended σ j <;> simp [ob1, nI_s, b01], trivial⟩) (fun v _ => by
    show mX2_amountInOpenJourneys_L4 F k τ σ (nI (Jn τ)) v = _
    unfold mX2_amountInOpenJourneys_L4
    rw [hJ.1, if_pos (Int32.le_refl _)]) (Jn τ) 0 F 0 (by omega) (by omega) trivial
  rw [show (0 : Int32) = nI 0 from rfl, show ((nI 0, nI 0) : Int32 × Int32) = (nI 0, 0) from rfl, hl, sums_add]
  rfl
theorem c_done (hI : SI τ) (hF : 5000 ≤ F) : mX2_amountInDoneJourneys F τ σ k = some (sums τ (gDn τ σ k)) := by
  have hJ := hI.J
  unfold mX2_amountInDoneJourneys
  have hl := loop_up (f := fun st : Int32 × Int32 => mX2_amountInDoneJourneys_L4 F k τ σ st.1 st.2) (fun _ _ => True) (fun j v => v + sj τ (gDn τ σ k j) j 0) (fun v => v) (Jn τ) (fun j v hj _ => ⟨by
    show mX2_amountInDoneJourneys_L4 F k τ σ (nI j) v = _
    unfold mX2_amountInDoneJourneys_L4
    rw [hJ.1, if_neg (nle (by omega) (by omega) hj), r8 hI hj, ob1_e, c_taken hI hj hF, taken_sj]
    have e : sj τ (gDn τ σ k j) j 0 = if σ 5 j = 3 then sj τ (fun s => if hst τ σ k s then τ 13 s else 0) j 0 else 0 := by
      unfold gDn
      by_cases q : σ 5 j = 3
      · simp [q]
      · simp only [q, decide_false, Bool.and_false, if_false, Bool.false_eq_true]
        exact fo_zero _ _ _
    rw [e]
    by_cases q : σ 5 j = 3 <;> simp [q, ob1, nI_s, b01], trivial⟩) (fun v _ => by
    show mX2_amountInDoneJourneys_L4 F k τ σ (nI (Jn τ)) v = _
    unfold mX2_amountInDoneJourneys_L4
    rw [hJ.1, if_pos (Int32.le_refl _)]) (Jn τ) 0 F 0 (by omega) (by omega) trivial
  rw [show (0 : Int32) = nI 0 from rfl, show ((nI 0, nI 0) : Int32 × Int32) = (nI 0, 0) from rfl, hl, sums_add]
  rfl
theorem c_woff (hI : SI τ) (hF : 5000 ≤ F) : mX2_amountWrittenOff F τ σ k = some (sums τ (fun _ => gWo τ σ k)) := by
  have hN := hI.N
  unfold mX2_amountWrittenOff
  have hl := loop_up (f := fun st : Int32 × Int32 => mX2_amountWrittenOff_L4 F k τ σ st.1 st.2) (fun _ _ => True) (fun s v => v + gWo τ σ k s) (fun v => v) (Nn τ) (fun s v hs _ => ⟨by
    show mX2_amountWrittenOff_L4 F k τ σ (nI s) v = _
    unfold mX2_amountWrittenOff_L4 gWo
    rw [hN.1, if_neg (nle (by omega) (by omega) hs)]
    simp only [r40 hI hs, ob1_e]
    by_cases q : τ 12 s = k <;> by_cases q2 : σ 9 s = 6 <;> simp [q, q2, cnd, ob1, nI_s], trivial⟩) (fun v _ => by
    show mX2_amountWrittenOff_L4 F k τ σ (nI (Nn τ)) v = _
    unfold mX2_amountWrittenOff_L4
    rw [hN.1, if_pos (Int32.le_refl _)]) (Nn τ) 0 F 0 (by omega) (by omega) trivial
  rw [show (0 : Int32) = nI 0 from rfl, show ((nI 0, nI 0) : Int32 × Int32) = (nI 0, 0) from rfl, hl]
  unfold sums sj
  rw [nest hI _ _ _ (Nat.le_refl _)]
  unfold Bn
  rw [if_neg (Nat.lt_irrefl _)]
  rfl
/-- what the reference's sum takes of a step -/
def gM (τ σ : MS) (k p : Int32) (j s : Nat) : Int32 := if p = 5 then gWo τ σ k s else if p = 3 then gOp τ σ k j s else gDn τ σ k j s
/-- what a journey owes -/
def owes (τ σ : MS) (j : Nat) : Int32 := if σ 5 j = 2 ∨ σ 5 j = 5 then sj τ (gOw τ σ) j 0 else 0
theorem c_owes (hI : SI τ) (hj : j < Jn τ) (hF : 5000 ≤ F) : mX2_amountOwed F τ σ (nI j) = some (owes τ σ j) := by
  have hA := hI.A hj
  have hN := hI.N.2
  have hl := loop_up (f := fun st : Int32 × Int32 => mX2_amountOwed_L45 F (nI (En τ j)) τ σ st.1 st.2) (fun _ _ => True) (fun s v => v + gOw τ σ s) (fun v => v) (En τ j) (fun s v hs _ => ⟨by
    show mX2_amountOwed_L45 F (nI (En τ j)) τ σ (nI s) v = _
    have hsN := hI.sN hj hs
    unfold mX2_amountOwed_L45 gOw
    rw [if_neg (nle (by omega) (by omega) hs)]
    simp only [r40 hI hsN, ob1_e]
    by_cases h3 : σ 9 s = 3 <;> simp [h3, ob1, nI_s], trivial⟩) (fun v _ => by
    show mX2_amountOwed_L45 F (nI (En τ j)) τ σ (nI (En τ j)) v = _
    unfold mX2_amountOwed_L45
    rw [if_pos (Int32.le_refl _)]) (En τ j - An τ j) (An τ j) F 0 (by omega) (by omega) trivial
  unfold mX2_amountOwed owes sj
  simp only [r8 hI hj, hA.1, hA.2.1, ob1_e]
  by_cases q : σ 5 j = 2
  · simp only [q, if_true, ob1_e, cnd_F, true_or]; rw [hl]; rfl
  · by_cases q2 : σ 5 j = 5
    · simp only [q2, if_true, ob1_e, or_true, show ¬ (5 : Int32) = 2 by decide, if_false, cnd_F]; rw [hl]; rfl
    · simp [q, q2, ob1, cnd]
/-- the step that is done, the p-th from behind -/
def lsd (τ σ : MS) (j p : Nat) : Option Nat := lst (fun s => decide (σ 9 s = 3)) (An τ j) (En τ j - An τ j) p
def oI (o : Option Nat) : Int32 := match o with
  | none => -1
  | some s => nI s
theorem c_lsd (hI : SI τ) (hj : j < Jn τ) (hF : 5000 ≤ F) {q : Nat} (hq : q < 2 ^ 31) : mX2_doneStepFromBehind F τ σ (nI j) (nI q) = some (oI (lsd τ σ j q)) := by
  have hA := hI.A hj
  have hN := hI.N.2
  have hl := loop_dn (f := fun st : Int32 × Int32 => mX2_doneStepFromBehind_L15 F (nI j) τ σ st.1 st.2) (P := fun s => decide (σ 9 s = 3)) (out := fun o => match o with | none => Sum.inr () | some s => Sum.inl (nI s)) (a := An τ j) (b := En τ j) (fun m p h1 h2 hp => by
    show mX2_doneStepFromBehind_L15 F (nI j) τ σ (nI (m + 1) - 1) (nI p) = _
    have hsN := hI.sN hj h2
    unfold mX2_doneStepFromBehind_L15
    rw [nI_m1 (by omega), Nat.add_sub_cancel, rA hI hj, ob1_e, if_neg (fun q => absurd ((nI_ltI (by omega) (by omega)).mp q) (by omega)), r40 hI hsN, ob1_e]
    by_cases q : σ 9 m = 3
    · by_cases q2 : p = 0
      · subst q2; simp [q]; rfl
      · have : ¬ nI p = 0 := fun q3 => q2 ((nI_i hp (b := 0) (by omega)).mp q3)
        simp only [q, if_true, this, if_false, decide_true, q2, nI_m1' (show 1 ≤ p by omega)]
        rw [Int32.sub_eq_add_neg]
    · simp only [q, if_false, decide_false, Bool.false_eq_true]
      rw [Int32.sub_eq_add_neg]) (fun p => by
    show mX2_doneStepFromBehind_L15 F (nI j) τ σ (nI (An τ j) - 1) p = _
    unfold mX2_doneStepFromBehind_L15
    rw [rA hI hj, ob1_e, if_pos ?_]
    rw [ltI, sI (by rw [nI_toInt (by omega)]; show -2147483648 ≤ ((An τ j : Nat) : Int) - 1; omega) (by rw [nI_toInt (by omega)]; show ((An τ j : Nat) : Int) - 1 < 2147483648; omega), nI_toInt (by omega)]
    show ((An τ j : Nat) : Int) - 1 < _
    omega) (En τ j - An τ j) F q (by omega) (by omega) hq
  unfold mX2_doneStepFromBehind
  rw [rE hI hj, ob1_e]
  rw [show An τ j + (En τ j - An τ j) = En τ j by omega] at hl
  rw [hl]
  unfold lsd
  cases lst (fun s => decide (σ 9 s = 3)) (An τ j) (En τ j - An τ j) q <;> rfl
end CO

