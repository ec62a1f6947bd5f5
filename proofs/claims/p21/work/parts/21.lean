/-! pure: what a setup is, what a world is, one world against one row -/
def Sn (τ : MS) : Nat := nv (τ 2 0)
def Jn (τ : MS) : Nat := nv (τ 5 0)
def Nn (τ : MS) : Nat := nv (τ 10 0)
def An (τ : MS) (j : Nat) : Nat := nv (τ 8 j)
def En (τ : MS) (j : Nat) : Nat := nv (τ 9 j)
def Gn (τ : MS) (s : Nat) : Nat := nv (τ 11 s)
def Kn (τ : MS) (s : Nat) : Nat := nv (τ 12 s)
def Cn (τ : MS) (j : Nat) : Nat := nv (τ 7 j)
/-- where journey j begins, and where the last one ends -/
def Bn (τ : MS) (j : Nat) : Nat := if j < Jn τ then An τ j else Nn τ
def SI (τ : MS) : Prop :=
  (τ 2 0 = nI (Sn τ) ∧ Sn τ ≤ 6) ∧ (τ 5 0 = nI (Jn τ) ∧ Jn τ ≤ 8) ∧ (τ 10 0 = nI (Nn τ) ∧ Nn τ ≤ 40) ∧
  (∀ j, j < Jn τ → τ 8 j = nI (An τ j) ∧ τ 9 j = nI (En τ j) ∧ An τ j < En τ j ∧ En τ j ≤ Nn τ) ∧
  (Bn τ 0 = 0 ∧ ∀ j, j < Jn τ → En τ j = Bn τ (j + 1)) ∧
  bd (τ 1 0) 1 9 ∧
  (∀ k, k < Sn τ → bd (τ 3 k) 0 9999) ∧
  (∀ j, j < Jn τ → τ 7 j = nI (Cn τ j) ∧ 1 ≤ Cn τ j ∧ Cn τ j ≤ 5 ∧ (∀ s, An τ j ≤ s → s < En τ j → τ 11 s = nI (Gn τ s) ∧ Gn τ s < Cn τ j) ∧ ∀ s t, An τ j ≤ s → s ≤ t → t < En τ j → Gn τ s ≤ Gn τ t) ∧
  (∀ s, s < Nn τ → τ 12 s = nI (Kn τ s) ∧ Kn τ s < Sn τ ∧ bd (τ 13 s) 1 999 ∧ bd (τ 14 s) 1 99 ∧ bd (τ 15 s) 0 9)
theorem SI.S {τ : MS} (h : SI τ) : τ 2 0 = nI (Sn τ) ∧ Sn τ ≤ 6 := h.1
theorem SI.J {τ : MS} (h : SI τ) : τ 5 0 = nI (Jn τ) ∧ Jn τ ≤ 8 := h.2.1
theorem SI.N {τ : MS} (h : SI τ) : τ 10 0 = nI (Nn τ) ∧ Nn τ ≤ 40 := h.2.2.1
theorem SI.A {τ : MS} (h : SI τ) {j : Nat} (hj : j < Jn τ) : τ 8 j = nI (An τ j) ∧ τ 9 j = nI (En τ j) ∧ An τ j < En τ j ∧ En τ j ≤ Nn τ := h.2.2.2.1 j hj
theorem SI.B0 {τ : MS} (h : SI τ) : Bn τ 0 = 0 := h.2.2.2.2.1.1
theorem SI.B {τ : MS} (h : SI τ) {j : Nat} (hj : j < Jn τ) : En τ j = Bn τ (j + 1) := h.2.2.2.2.1.2 j hj
theorem SI.P {τ : MS} (h : SI τ) : bd (τ 1 0) 1 9 := h.2.2.2.2.2.1
theorem SI.L {τ : MS} (h : SI τ) {k : Nat} (hk : k < Sn τ) : bd (τ 3 k) 0 9999 := h.2.2.2.2.2.2.1 k hk
theorem SI.C {τ : MS} (h : SI τ) {j : Nat} (hj : j < Jn τ) : τ 7 j = nI (Cn τ j) ∧ 1 ≤ Cn τ j ∧ Cn τ j ≤ 5 ∧ (∀ s, An τ j ≤ s → s < En τ j → τ 11 s = nI (Gn τ s) ∧ Gn τ s < Cn τ j) ∧ ∀ s t, An τ j ≤ s → s ≤ t → t < En τ j → Gn τ s ≤ Gn τ t := h.2.2.2.2.2.2.2.1 j hj
theorem SI.K {τ : MS} (h : SI τ) {s : Nat} (hs : s < Nn τ) : τ 12 s = nI (Kn τ s) ∧ Kn τ s < Sn τ ∧ bd (τ 13 s) 1 999 ∧ bd (τ 14 s) 1 99 ∧ bd (τ 15 s) 0 9 := h.2.2.2.2.2.2.2.2 s hs
theorem SI.ord {τ : MS} (h : SI τ) {i : Nat} : ∀ {j : Nat}, i < j → j < Jn τ → En τ i ≤ An τ j := by
  intro j
  induction j with
  | zero => intro h1; omega
  | succ j ih =>
    intro h1 h2
    have e : An τ (j + 1) = En τ j := by rw [h.B (j := j) (by omega)]; unfold Bn; rw [if_pos h2]
    by_cases hij : i = j
    · subst hij; omega
    · have := ih (by omega) (by omega)
      have := (h.A (j := j) (by omega)).2.2.1
      omega
theorem SI.dis {τ : MS} (h : SI τ) {i j s : Nat} (hi : i < Jn τ) (hj : j < Jn τ) (h1 : An τ i ≤ s) (h2 : s < En τ i) (h3 : An τ j ≤ s) (h4 : s < En τ j) : i = j := by
  rcases (show i < j ∨ i = j ∨ j < i by omega) with q | q | q
  · have := h.ord q hj; omega
  · exact q
  · have := h.ord q hi; omega
theorem SI.sN {τ : MS} (h : SI τ) {j s : Nat} (hj : j < Jn τ) (h2 : s < En τ j) : s < Nn τ := by have := (h.A hj).2.2.2; omega
/-- the steps of journey j, and journey j itself, in a world -/
def LSp (τ σ : MS) (j : Nat) : Prop := ∀ s, An τ j ≤ s → s < En τ j → bd (σ 10 s) 0 9 ∧ (σ 9 s = 2 → 0 ≤ (σ 12 s).toInt ∧ (σ 12 s).toInt ≤ (σ 1 0).toInt)
def LJ (τ σ : MS) (j : Nat) : Prop := bd (σ 5 j) 0 5 ∧ (σ 5 j = 1 → ∃ p, σ 6 j = nI p ∧ p < Cn τ j) ∧ (σ 5 j = 2 → 0 ≤ (σ 8 j).toInt ∧ (σ 8 j).toInt < (τ 1 0).toInt) ∧ (σ 5 j = 5 → ∃ s, An τ j ≤ s ∧ s < En τ j ∧ σ 9 s = 3)
def LV (B : Int) (τ σ : MS) : Prop := ∀ k, k < Sn τ → bd (σ 3 k) 0 B
/-- a world whose levels are at most B, whose time is at most T -/
def WI (B T : Int) (τ σ : MS) : Prop := LV B τ σ ∧ (∀ j, j < Jn τ → LSp τ σ j ∧ LJ τ σ j) ∧ bd (σ 1 0) 0 T ∧ ∀ i, σ 1 i = σ 1 0
theorem u2_8 (μ : MS) (x : Nat) (v : Int32) (y : Nat) : u2 μ 8 x v 8 y = if y = x then v else μ 8 y := by rw [u2_at]; simp
theorem u2_o (μ : MS) (c x : Nat) (v : Int32) (q : Nat) (h : q ≠ c) : u2 μ c x v q = μ q := by funext i; rw [u2_at, if_neg (by simp [h])]
theorem u2_s (μ : MS) (c x : Nat) (v : Int32) : u2 μ c x v c x = v := by rw [u2_at]; simp
theorem u2_n (μ : MS) (c x : Nat) (v : Int32) (q i : Nat) (h : ¬ (q = c ∧ i = x)) : u2 μ c x v q i = μ q i := by rw [u2_at, if_neg h]
section UP
variable {τ σ : MS} {w : Nat → Int32} {μ0 μ : MS} {s j k : Nat} {v x t : Int32}
theorem pf_n (μ : MS) (c : Nat) (v : Int32) (q i : Nat) (h : q ≠ c) : pf μ c v q i = μ q i := by rw [pf_at, if_neg h]
end UP

