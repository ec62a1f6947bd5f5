/-! pure: the class's tick as a function of its world -/
def prs (τ σ : MS) (j s : Nat) : Bool := decide (τ 11 s = σ 6 j)
def takeF (τ : MS) (s k : Nat) (σ : MS) : MS :=
  if 0 < τ 13 s - σ 3 k then
    (if σ 11 s ≤ 0 then u2 (u2 σ 4 k (if τ 13 s - σ 3 k < σ 4 k then τ 13 s - σ 3 k else σ 4 k)) 9 s 4 else u2 (u2 σ 4 k (if τ 13 s - σ 3 k < σ 4 k then τ 13 s - σ 3 k else σ 4 k)) 11 s (σ 11 s - 1))
  else u2 (u2 (u2 σ 3 k (σ 3 k - τ 13 s)) 9 s 2) 12 s (σ 1 0)
def stepF (τ : MS) (j s : Nat) (σ : MS) : MS :=
  if σ 9 s = 2 then (if σ 1 0 - σ 12 s < τ 14 s then σ else u2 σ 9 s 3)
  else if σ 9 s = 1 then
    (if hold τ σ j (τ 12 s) = false ∧ ¬ holders τ σ (τ 12 s) < τ 4 (Kn τ s) then (if σ 13 s < τ 0 0 then u2 σ 13 s (σ 13 s + 1) else u2 σ 9 s 4)
     else takeF τ s (Kn τ s) σ)
  else σ
def stHas (τ σ : MS) (j : Nat) (v : Int32) : Bool := exB (fun s => prs τ σ j s && decide (σ 9 s = v)) (An τ j) (En τ j - An τ j)
def opn (σ : MS) (s : Nat) : Bool := decide (σ 9 s ≠ 3 ∧ σ 9 s ≠ 6)
def over (τ σ : MS) (j : Nat) : Bool := !exB (fun s => prs τ σ j s && opn σ s) (An τ j) (En τ j - An τ j)
def wdF (τ : MS) (j s : Nat) (σ : MS) : MS := if prs τ σ j s && decide (σ 9 s = 1) then u2 σ 9 s 0 else σ
def withF (τ : MS) (j : Nat) (σ : MS) : MS := fo (wdF τ j) (An τ j) (En τ j - An τ j) σ
def restF (j : Nat) (v : Int32) (σ : MS) : MS := u2 (u2 σ 5 j v) 7 j (σ 1 0)
def rdyF (τ : MS) (j s : Nat) (σ : MS) : MS := if prs τ σ j s && decide (σ 9 s = 0) then u2 (u2 σ 9 s 1) 13 s 0 else σ
def entF (τ : MS) (j : Nat) (p : Int32) (σ : MS) : MS := if p < τ 7 j then fo (rdyF τ j) (An τ j) (En τ j - An τ j) (u2 σ 6 j p) else restF j 3 σ
def mvF (τ : MS) (j s : Nat) (σ : MS) : MS := if prs τ σ j s then stepF τ j s σ else σ
def mvsF (τ : MS) (j : Nat) (σ : MS) : MS := fo (mvF τ j) (An τ j) (En τ j - An τ j) σ
def endF (τ : MS) (j : Nat) (f : Bool) (σ : MS) : MS := if over τ σ j then entF τ j (σ 6 j + 1) σ else if f && !stHas τ σ j 2 then u2 (u2 σ 5 j 2) 8 j 0 else σ
def moveF (τ : MS) (j : Nat) (σ : MS) : MS := endF τ j (stHas τ (mvsF τ j σ) j 4) (if stHas τ (mvsF τ j σ) j 4 then withF τ j (mvsF τ j σ) else mvsF τ j σ)
def putF (τ : MS) (j s : Nat) (v : Int32) (σ : MS) : MS := u2 (u2 (if v = 5 then u2 σ 3 (Kn τ s) (σ 3 (Kn τ s) + τ 13 s) else σ) 9 s v) 8 j 0
def ufF (j s : Nat) (σ : MS) : MS := u2 (pf (u2 σ 10 s (σ 10 s - 1)) 2 (σ 2 0 + 1)) 8 j (σ 8 j + 1)
def undoF (τ : MS) (j : Nat) (σ : MS) : MS := match lsd τ σ j 0 with
  | none => restF j 4 σ
  | some s => if σ 10 s ≤ 0 then putF τ j s 5 σ else if σ 8 j + 1 < τ 1 0 then ufF j s σ else restF j 5 (ufF j s σ)
def ph1 (τ : MS) (j : Nat) (σ : MS) : MS := if σ 5 j = 2 then σ else if σ 5 j = 0 ∧ τ 6 j = σ 1 0 then entF τ j 0 (u2 σ 5 j 1) else σ
def ph2 (τ : MS) (j : Nat) (σ : MS) : MS := if σ 5 j = 1 then moveF τ j σ else σ
def ph3 (τ : MS) (w : Nat → Int32) (j : Nat) (σ : MS) : MS := if w j = 2 then undoF τ j σ else σ
def ph123 (τ σ : MS) : MS := fo (ph3 τ (σ 5)) 0 (Jn τ) (fo (ph2 τ) 0 (Jn τ) (fo (ph1 τ) 0 (Jn τ) σ))
def tickF (τ σ : MS) : MS := pf (ph123 τ σ) 1 (ph123 τ σ 1 0 + 1)
section CF
variable {τ σ : MS} {F s j : Nat} {p v : Int32}
theorem c_prs (hI : SI τ) (hj : j < Jn τ) (hs : s < Nn τ) : mX2_isPresent F τ σ (nI j) (nI s) = some (b01 (prs τ σ j s)) := by
  unfold mX2_isPresent prs
  rw [r40 hI hs, ob1_e, r8 hI hj, ob1_e]
  by_cases h : τ 11 s = σ 6 j <;> simp [h, ob1, b01]
theorem c_takeA (hI : SI τ) (hs : s < Nn τ) : mX2_takeAmount F τ σ (nI s) (nI (Kn τ s)) = some (takeF τ s (Kn τ s) σ) := by
  have hk := (hI.K hs).2.1
  unfold mX2_takeAmount takeF
  rw [r40 hI hs, ob1_e, r6 hI hk, ob1_e]
  by_cases h : 0 < τ 13 s - σ 3 (Kn τ s)
  · rw [if_pos h, if_pos h, r6 hI hk, ob1_e, w6 hI hk, ob1_e, r40 hI hs, ob1_e, u2_n _ _ _ _ 11 s (by omega)]
    by_cases h2 : σ 11 s ≤ 0
    · rw [if_pos h2, if_pos h2, w40 hI hs]; rfl
    · rw [if_neg h2, if_neg h2, ob1_e, w40 hI hs]; rfl
  · rw [if_neg h, if_neg h, ob1_e, ob1_e, w6 hI hk, ob1_e, w40 hI hs, ob1_e, w40 hI hs, ob1_e, u2_n _ _ _ _ 1 0 (by omega), u2_n _ _ _ _ 1 0 (by omega)]
theorem c_step (hI : SI τ) (hj : j < Jn τ) (hs : s < Nn τ) (hF : 5000 ≤ F) : mX2_moveStep F τ σ (nI j) (nI s) = some (stepF τ j s σ) := by
  have hK := hI.K hs
  unfold mX2_moveStep stepF
  rw [r40 hI hs, ob1_e]
  by_cases h2 : σ 9 s = 2
  · rw [if_pos h2, if_pos h2, r40 hI hs, ob1_e, r40 hI hs, ob1_e]
    by_cases h3 : σ 1 0 - σ 12 s < τ 14 s
    · rw [if_pos h3, if_pos h3]; rfl
    · rw [if_neg h3, if_neg h3, w40 hI hs]; rfl
  · rw [if_neg h2, if_neg h2, ob1_e]
    by_cases h1 : σ 9 s = 1
    · rw [if_pos h1, if_pos h1, r40 hI hs, ob1_e, hK.1, c_taken hI hj hF, ob1_e]
      have ht := taken_npos (σ := σ) (k := nI (Kn τ s)) hI hj
      cases hh : hold τ σ j (nI (Kn τ s)) with
      | true =>
        have : ¬ taken τ σ j (nI (Kn τ s)) ≤ 0 := fun q => by rw [ht.mp q] at hh; cases hh
        rw [if_neg this, ob1_e, if_neg (by decide), ob1_e, cnd_F, c_takeA hI hs, if_neg (by simp)]; rfl
      | false =>
        rw [if_pos (ht.mpr hh), ob1_e, if_pos rfl, c_holders hI hF, ob1_e, r6 hI hK.2.1, ob1_e]
        by_cases h4 : holders τ σ (nI (Kn τ s)) < τ 4 (Kn τ s)
        · rw [if_pos h4, ob1_e, cnd_F, c_takeA hI hs, if_neg (by simp [h4])]; rfl
        · rw [if_neg h4, ob1_e, cnd_T, if_pos ⟨rfl, h4⟩]
          unfold mX2_waitForGuard
          rw [r40 hI hs, ob1_e]
          by_cases h5 : σ 13 s < τ 0 0
          · rw [if_pos h5, if_pos h5, ob1_e, w40 hI hs]; rfl
          · rw [if_neg h5, if_neg h5, w40 hI hs]; rfl
    · rw [if_neg h1, if_neg h1]; rfl
theorem c_stHas (hI : SI τ) (hj : j < Jn τ) (hF : 5000 ≤ F) : mX2_stageHas F τ σ (nI j) v = some (b01 (stHas τ σ j v)) := by
  have hA := hI.A hj
  have hN := hI.N.2
  have hl := loop_ex (f := fun st : Int32 => mX2_stageHas_L21 F (nI (En τ j)) (nI j) v τ σ st) (P := fun s => prs τ σ j s && decide (σ 9 s = v)) (r := (1 : Int32)) (lo := An τ j) (b := En τ j) (fun s _ hs => by
    show mX2_stageHas_L21 F (nI (En τ j)) (nI j) v τ σ (nI s) = _
    have hsN := hI.sN hj hs
    unfold mX2_stageHas_L21
    rw [if_neg (nle (by omega) (by omega) hs), c_prs hI hj hsN, ob1_e, r40 hI hsN, ob1_e]
    cases prs τ σ j s <;> by_cases h5 : σ 9 s = v <;> simp [h5, cnd, ob1, nI_s, b01]) (by
    show mX2_stageHas_L21 F (nI (En τ j)) (nI j) v τ σ (nI (En τ j)) = _
    unfold mX2_stageHas_L21
    rw [if_pos (Int32.le_refl _)]) (En τ j - An τ j) (An τ j) F (by omega) (by omega) (by omega)
  unfold mX2_stageHas
  rw [rE hI hj, ob1_e, rA hI hj, ob1_e, hl]
  unfold stHas
  cases exB (fun s => prs τ σ j s && decide (σ 9 s = v)) (An τ j) (En τ j - An τ j) <;> simp [ob1, el1, b01] <;> rfl
theorem c_isOpen (hI : SI τ) (hs : s < Nn τ) : mX2_isOpen F τ σ (nI s) = some (b01 (opn σ s)) := by
  unfold mX2_isOpen opn
  rw [r40 hI hs, ob1_e, ob1_e]
  by_cases h3 : σ 9 s = 3 <;> by_cases h6 : σ 9 s = 6 <;> simp [h3, h6, ob1, cnd, b01]
theorem c_over (hI : SI τ) (hj : j < Jn τ) (hF : 5000 ≤ F) : mX2_stageIsOver F τ σ (nI j) = some (b01 (over τ σ j)) := by
  have hA := hI.A hj
  have hN := hI.N.2
  have hl := loop_ex (f := fun st : Int32 => mX2_stageIsOver_L20 F (nI (En τ j)) (nI j) τ σ st) (P := fun s => prs τ σ j s && opn σ s) (r := (0 : Int32)) (lo := An τ j) (b := En τ j) (fun s _ hs => by
    show mX2_stageIsOver_L20 F (nI (En τ j)) (nI j) τ σ (nI s) = _
    have hsN := hI.sN hj hs
    unfold mX2_stageIsOver_L20
    rw [if_neg (nle (by omega) (by omega) hs), c_prs hI hj hsN, ob1_e, c_isOpen hI hsN, ob1_e]
    cases prs τ σ j s <;> cases opn σ s <;> simp [cnd, ob1, nI_s, b01]) (by
    show mX2_stageIsOver_L20 F (nI (En τ j)) (nI j) τ σ (nI (En τ j)) = _
    unfold mX2_stageIsOver_L20
    rw [if_pos (Int32.le_refl _)]) (En τ j - An τ j) (An τ j) F (by omega) (by omega) (by omega)
  unfold mX2_stageIsOver
  rw [rE hI hj, ob1_e, rA hI hj, ob1_e, hl]
  unfold over
  cases exB (fun s => prs τ σ j s && opn σ s) (An τ j) (En τ j - An τ j) <;> simp [ob1, el1, b01] <;> rfl
theorem c_with (hI : SI τ) (hj : j < Jn τ) (hF : 5000 ≤ F) : mX2_withdrawReadySteps F τ σ (nI j) = some (withF τ j σ) := by
  have hA := hI.A hj
  have hN := hI.N.2
  have hl := loop_up (f := fun st : Int32 × MS => mX2_withdrawReadySteps_L20 F (nI (En τ j)) (nI j) τ st.1 st.2) (fun _ _ => True) (wdF τ j) (fun v => v) (En τ j) (fun s σ hs _ => ⟨by
    show mX2_withdrawReadySteps_L20 F (nI (En τ j)) (nI j) τ (nI s) σ = _
    have hsN := hI.sN hj hs
    unfold mX2_withdrawReadySteps_L20 wdF
    rw [if_neg (nle (by omega) (by omega) hs), c_prs hI hj hsN, ob1_e, r40 hI hsN, ob1_e, w40 hI hsN]
    cases prs τ σ j s <;> by_cases h5 : σ 9 s = 1 <;> simp [h5, cnd, ob1, nI_s, b01], trivial⟩) (fun v _ => by
    show mX2_withdrawReadySteps_L20 F (nI (En τ j)) (nI j) τ (nI (En τ j)) v = _
    unfold mX2_withdrawReadySteps_L20
    rw [if_pos (Int32.le_refl _)]) (En τ j - An τ j) (An τ j) F σ (by omega) (by omega) trivial
  unfold mX2_withdrawReadySteps
  rw [rE hI hj, ob1_e, rA hI hj, ob1_e, hl]
  rfl
theorem c_rest (hI : SI τ) (hj : j < Jn τ) : mX2_comeToRest F τ σ (nI j) v = some (restF j v σ) := by
  unfold mX2_comeToRest restF
  rw [w8 hI hj, ob1_e, w8 hI hj, ob1_e, u2_n _ _ _ _ 1 0 (by omega)]
theorem c_ent (hI : SI τ) (hj : j < Jn τ) (hF : 5000 ≤ F) : mX2_enterStage F τ σ (nI j) p = some (entF τ j p σ) := by
  have hA := hI.A hj
  have hN := hI.N.2
  have hl := loop_up (f := fun st : Int32 × MS => mX2_enterStage_L48 F (nI (En τ j)) (nI j) τ st.1 st.2) (fun _ _ => True) (rdyF τ j) (fun v => v) (En τ j) (fun s σ hs _ => ⟨by
    show mX2_enterStage_L48 F (nI (En τ j)) (nI j) τ (nI s) σ = _
    have hsN := hI.sN hj hs
    unfold mX2_enterStage_L48 rdyF
    rw [if_neg (nle (by omega) (by omega) hs), c_prs hI hj hsN, ob1_e, r40 hI hsN, ob1_e, w40 hI hsN, ob1_e, w40 hI hsN]
    cases prs τ σ j s <;> by_cases h5 : σ 9 s = 0 <;> simp [h5, cnd, ob1, nI_s, b01], trivial⟩) (fun v _ => by
    show mX2_enterStage_L48 F (nI (En τ j)) (nI j) τ (nI (En τ j)) v = _
    unfold mX2_enterStage_L48
    rw [if_pos (Int32.le_refl _)]) (En τ j - An τ j) (An τ j) F (u2 σ 6 j p) (by omega) (by omega) trivial
  unfold mX2_enterStage entF
  rw [r8 hI hj, ob1_e]
  by_cases h : p < τ 7 j
  · rw [if_pos h, if_pos h, w8 hI hj, ob1_e, rE hI hj, ob1_e, rA hI hj, ob1_e, hl]
    rfl
  · rw [if_neg h, if_neg h, c_rest hI hj]; rfl
theorem c_move (hI : SI τ) (hj : j < Jn τ) (hF : 5000 ≤ F) : mX2_moveForward F τ σ (nI j) = some (moveF τ j σ) := by
  have hA := hI.A hj
  have hN := hI.N.2
  have hl := loop_up (f := fun st : Int32 × MS => mX2_moveForward_L20 F (nI (En τ j)) (nI j) τ st.1 st.2) (fun _ _ => True) (mvF τ j) (fun v => v) (En τ j) (fun s σ hs _ => ⟨by
    show mX2_moveForward_L20 F (nI (En τ j)) (nI j) τ (nI s) σ = _
    have hsN := hI.sN hj hs
    unfold mX2_moveForward_L20 mvF
    rw [if_neg (nle (by omega) (by omega) hs), c_prs hI hj hsN, ob1_e, c_step hI hj hsN hF]
    cases prs τ σ j s <;> simp [cnd, ob1, nI_s, b01], trivial⟩) (fun v _ => by
    show mX2_moveForward_L20 F (nI (En τ j)) (nI j) τ (nI (En τ j)) v = _
    unfold mX2_moveForward_L20
    rw [if_pos (Int32.le_refl _)]) (En τ j - An τ j) (An τ j) F σ (by omega) (by omega) trivial
  unfold mX2_moveForward moveF
  rw [rE hI hj, ob1_e, rA hI hj, ob1_e, hl, ob1_e]
  show ob1 (mX2_stageHas F τ (mvsF τ j σ) (nI j) 4) _ = _
  rw [c_stHas hI hj hF, ob1_e, c_with hI hj hF]
  have e : (if b01 (stHas τ (mvsF τ j σ) j 4) = 0 then some (fo (mvF τ j) (An τ j) (En τ j - An τ j) σ) else ob1 (some (withF τ j (mvsF τ j σ))) fun σ27 => some σ27) = some (if stHas τ (mvsF τ j σ) j 4 then withF τ j (mvsF τ j σ) else mvsF τ j σ) := by
    cases stHas τ (mvsF τ j σ) j 4 <;> rfl
  refine (congrArg (fun x => ob1 x _) e).trans ?_
  rw [ob1_e]
  generalize (if stHas τ (mvsF τ j σ) j 4 then withF τ j (mvsF τ j σ) else mvsF τ j σ) = σ2
  generalize stHas τ (mvsF τ j σ) j 4 = f
  unfold endF
  rw [c_over hI hj hF, ob1_e, r8 hI hj, ob1_e, c_stHas hI hj hF, ob1_e, c_ent hI hj hF, w8 hI hj, ob1_e, w8 hI hj]
  cases over τ σ2 j <;> cases f <;> cases stHas τ σ2 j 2 <;> simp [ob1, cnd, b01]
theorem c_put (hI : SI τ) (hj : j < Jn τ) (hs : s < Nn τ) : mX2_putStepAway F τ σ (nI j) (nI s) v = some (putF τ j s v σ) := by
  have hK := hI.K hs
  unfold mX2_putStepAway putF
  rw [r40 hI hs, ob1_e, hK.1, r6 hI hK.2.1, ob1_e, r40 hI hs, ob1_e, w6 hI hK.2.1, ob1_e]
  by_cases h : v = 5
  · rw [if_pos h, if_pos h, ob1_e, w40 hI hs, ob1_e, w8 hI hj, ob1_e]
  · rw [if_neg h, if_neg h, ob1_e, w40 hI hs, ob1_e, w8 hI hj, ob1_e]
theorem lsd_in {q : Nat} (h : lsd τ σ j q = some s) : An τ j ≤ s ∧ s < En τ j ∧ σ 9 s = 3 := by
  obtain ⟨h1, h2, h3⟩ := lst_some h
  exact ⟨h1, by omega, of_decide_eq_true h3⟩
theorem c_undo (hI : SI τ) (hj : j < Jn τ) (hF : 5000 ≤ F) : mX2_undoLastStep F τ σ (nI j) = some (undoF τ j σ) := by
  have hA := hI.A hj
  have hN := hI.N.2
  unfold mX2_undoLastStep undoF
  rw [i0, c_lsd hI hj hF (q := 0) (by decide), ob1_e]
  cases hd : lsd τ σ j 0 with
  | none =>
    rw [if_neg (by decide), c_rest hI hj]; rfl
  | some s =>
    obtain ⟨h1, h2, h3⟩ := lsd_in hd
    have hsN := hI.sN hj h2
    show ob1 (if nI 0 ≤ nI s then _ else _) _ = _
    rw [if_pos ((nI_leI (by decide) (by omega)).mpr (Nat.zero_le _))]
    show ob1 (ob1 (rd (σ 10) 40 (nI s)) _) _ = _
    rw [r40 hI hsN, ob1_e]
    show _ = some (if σ 10 s ≤ 0 then _ else _)
    by_cases h4 : σ 10 s ≤ 0
    · rw [if_pos h4, if_pos (show σ 10 s ≤ nI 0 from h4)]
      show ob1 (ob1 (mX2_putStepAway F τ σ (nI j) (nI s) 5) _) _ = _
      rw [c_put hI hj hsN]; rfl
    · rw [if_neg h4, if_neg (show ¬ σ 10 s ≤ nI 0 from h4)]
      show ob1 (ob1 (rd (σ 10) 40 (nI s)) fun x9 => ob1 (wra σ 10 40 (nI s) _) _) _ = _
      rw [r40 hI hsN, ob1_e, w40 hI hsN, ob1_e, ob1_e, r8 hI hj, ob1_e, w8 hI hj, ob1_e, r8 hI hj, ob1_e, u2_s]
      have e1 : pf (u2 σ 10 s (σ 10 s - 1)) 2 ((u2 σ 10 s (σ 10 s - 1)) 2 0 + 1) 8 j = σ 8 j := by rw [pf_n _ _ _ _ _ (by decide), u2_n _ _ _ _ _ _ (by omega)]
      have e2 : u2 σ 10 s (σ 10 s - 1) 2 0 = σ 2 0 := u2_n _ _ _ _ _ _ (by omega)
      rw [e2] at e1 ⊢
      rw [e1]
      show ob1 (if σ 8 j + 1 < τ 1 0 then some (ufF j s σ) else ob1 (mX2_comeToRest F τ (ufF j s σ) (nI j) 5) fun σ16 => some σ16) _ = _
      by_cases h5 : σ 8 j + 1 < τ 1 0
      · rw [if_pos h5, if_pos h5]; rfl
      · rw [if_neg h5, if_neg h5, c_rest hI hj]; rfl
end CF

