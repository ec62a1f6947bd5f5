/-! pure: what is held, who has ended: both sides say the same -/
def b01 (b : Bool) : Int32 := if b then 1 else 0
theorem b01_0 (b : Bool) : (b01 b = 0) ↔ b = false := by cases b <;> decide
theorem b01_1 (b : Bool) : (b01 b = 1) ↔ b = true := by cases b <;> decide
def ended (σ : MS) (j : Nat) : Bool := decide (σ 5 j = 3 ∨ σ 5 j = 4)
def tkb (σ : MS) (s : Nat) : Bool := decide (σ 9 s = 2 ∨ σ 9 s = 3)
def hst (τ σ : MS) (k : Int32) (s : Nat) : Bool := decide (τ 12 s = k) && tkb σ s
def hold (τ σ : MS) (j : Nat) (k : Int32) : Bool := exB (hst τ σ k) (An τ j) (En τ j - An τ j)
def taken (τ σ : MS) (j : Nat) (k : Int32) : Int32 := fo (fun s v => if hst τ σ k s then v + τ 13 s else v) (An τ j) (En τ j - An τ j) 0
def holders (τ σ : MS) (k : Int32) : Int32 := fo (fun j v => v + b01 (!ended σ j && hold τ σ j k)) 0 (Jn τ) 0
section VA
variable {τ σ : MS} {w : Nat → Int32} {μ0 μ : MS} {F s j : Nat} {k : Int32}
theorem c_ended (hI : SI τ) (hj : j < Jn τ) : mX2_hasEnded F τ σ (nI j) = some (b01 (ended σ j)) := by
  unfold mX2_hasEnded ended b01
  simp only [r8 hI hj, ob1_e]
  by_cases h3 : σ 5 j = 3 <;> by_cases h4 : σ 5 j = 4 <;> simp [h3, h4, cnd, ob1]
theorem c_taken (hI : SI τ) (hj : j < Jn τ) (hF : 5000 ≤ F) : mX2_amountTakenBy F τ σ (nI j) k = some (taken τ σ j k) := by
  have hA := hI.A hj
  have hN := hI.N.2
  unfold mX2_amountTakenBy
  simp only [rA hI hj, rE hI hj, ob1_e]
  have hl := loop_up (f := fun st : Int32 × Int32 => mX2_amountTakenBy_L24 F (nI (En τ j)) k τ σ st.1 st.2) (fun _ _ => True) (fun s v => if hst τ σ k s then v + τ 13 s else v) (fun v => v) (En τ j) (fun s v hs _ => ⟨by
    show mX2_amountTakenBy_L24 F (nI (En τ j)) k τ σ (nI s) v = _
    have hsN := hI.sN hj hs
    unfold mX2_amountTakenBy_L24 hst tkb
    rw [if_neg (nle (by omega) (by omega) hs)]
    simp only [r40 hI hsN, ob1_e]
    by_cases h3 : σ 9 s = 2 <;> by_cases h4 : σ 9 s = 3 <;> by_cases h5 : τ 12 s = k <;> simp [h3, h4, h5, cnd, ob1, nI_s], trivial⟩) (fun v _ => by
    show mX2_amountTakenBy_L24 F (nI (En τ j)) k τ σ (nI (En τ j)) v = _
    unfold mX2_amountTakenBy_L24
    rw [if_pos (Int32.le_refl _)]) (En τ j - An τ j) (An τ j) F 0 (by omega) (by omega) trivial
  rw [hl]
  rfl
theorem taken_pos (hI : SI τ) (hj : j < Jn τ) : (¬ taken τ σ j k ≤ 0) ↔ hold τ σ j k = true := by
  have hA := hI.A hj
  have hN := hI.N.2
  have key : ∀ n, n ≤ En τ j - An τ j → 0 ≤ (fo (fun s v => if hst τ σ k s then v + τ 13 s else v) (An τ j) n (0 : Int32)).toInt ∧ (fo (fun s v => if hst τ σ k s then v + τ 13 s else v) (An τ j) n (0 : Int32)).toInt ≤ 999 * n ∧ ((0 < (fo (fun s v => if hst τ σ k s then v + τ 13 s else v) (An τ j) n (0 : Int32)).toInt) ↔ exB (hst τ σ k) (An τ j) n = true) := by
    intro n
    induction n with
    | zero => intro _; simp [fo, exB]
    | succ n ih =>
      intro hn
      obtain ⟨h1, h2, h3⟩ := ih (by omega)
      have e : exB (hst τ σ k) (An τ j) (n + 1) = true ↔ exB (hst τ σ k) (An τ j) n = true ∨ hst τ σ k (An τ j + n) = true := by
        rw [exB_iff, exB_iff]
        constructor
        · rintro ⟨s, a, b, c⟩
          by_cases hs : s = An τ j + n
          · subst hs; exact Or.inr c
          · exact Or.inl ⟨s, a, by omega, c⟩
        · rintro (⟨s, a, b, c⟩ | c)
          · exact ⟨s, a, by omega, c⟩
          · exact ⟨_, by omega, by omega, c⟩
      rw [fo_end, e]
      generalize fo (fun s v => if hst τ σ k s then v + τ 13 s else v) (An τ j) n (0 : Int32) = v at h1 h2 h3 ⊢
      by_cases q : hst τ σ k (An τ j + n) = true
      · have hb := (hI.K (s := An τ j + n) (by omega)).2.2.1
        obtain ⟨b1, b2⟩ := hb
        simp only [q, if_true]
        rw [aI (by omega) (by omega)]
        refine ⟨by omega, by omega, ?_⟩
        constructor
        · intro _; exact Or.inr trivial
        · intro _; omega
      · simp only [q]
        refine ⟨h1, by simp; omega, ?_⟩
        simp [h3]
  have := (key _ (Nat.le_refl _)).2.2
  unfold hold taken
  rw [← this, leI, show (0 : Int32).toInt = 0 from rfl]
  omega
theorem taken_npos (hI : SI τ) (hj : j < Jn τ) : (taken τ σ j k ≤ 0) ↔ hold τ σ j k = false := by
  have := taken_pos (σ := σ) (k := k) hI hj
  rw [← Bool.not_eq_true, ← this, Classical.not_not]
theorem c_holders (hI : SI τ) (hF : 5000 ≤ F) : mX2_holdersOf F τ σ k = some (holders τ σ k) := by
  have hJ := hI.J
  unfold mX2_holdersOf
  have hl := loop_up (f := fun st : Int32 × Int32 => mX2_holdersOf_L4 F k τ σ st.1 st.2) (fun _ _ => True) (fun j v => v + b01 (!ended σ j && hold τ σ j k)) (fun v => v) (Jn τ) (fun j v hj _ => ⟨by
    show mX2_holdersOf_L4 F k τ σ (nI j) v = _
    unfold mX2_holdersOf_L4
    rw [hJ.1, if_neg (nle (by omega) (by omega) hj)]
    simp only [c_ended hI hj, c_taken hI hj hF, ob1_e, b01_0, taken_npos hI hj]
    cases ended σ j <;> cases hold τ σ j k <;> simp [cnd, ob1, nI_s, b01], trivial⟩) (fun v _ => by
    show mX2_holdersOf_L4 F k τ σ (nI (Jn τ)) v = _
    unfold mX2_holdersOf_L4
    rw [hJ.1, if_pos (Int32.le_refl _)]) (Jn τ) 0 F 0 (by omega) (by omega) trivial
  rw [show (0 : Int32) = nI 0 from rfl, show ((nI 0, nI 0) : Int32 × Int32) = (nI 0, 0) from rfl, hl]
  rfl
end VA

