/-! pure: what a setup is, what a world is, one world against one row -/
def Sn (τ : MS) : Nat := nv (τ 2 0)
def Jn (τ : MS) : Nat := nv (τ 5 0)
def Nn (τ : MS) : Nat := nv (τ 10 0)
def An (τ : MS) (j : Nat) : Nat := nv (τ 8 j)
def En (τ : MS) (j : Nat) : Nat := nv (τ 9 j)
def Gn (τ : MS) (s : Nat) : Nat := nv (τ 11 s)
def Kn (τ : MS) (s : Nat) : Nat := nv (τ 12 s)
def Cn (τ : MS) (j : Nat) : Nat := nv (τ 7 j)
/-- where journey j begins, and where the last one ends -/
def Bn (τ : MS) (j : Nat) : Nat := if j < Jn τ then An τ j else Nn τ
def SI (τ : MS) : Prop :=
  (τ 2 0 = nI (Sn τ) ∧ Sn τ ≤ 6) ∧ (τ 5 0 = nI (Jn τ) ∧ Jn τ ≤ 8) ∧ (τ 10 0 = nI (Nn τ) ∧ Nn τ ≤ 40) ∧
  (∀ j, j < Jn τ → τ 8 j = nI (An τ j) ∧ τ 9 j = nI (En τ j) ∧ An τ j < En τ j ∧ En τ j ≤ Nn τ) ∧
  (Bn τ 0 = 0 ∧ ∀ j, j < Jn τ → En τ j = Bn τ (j + 1)) ∧
  bd (τ 1 0) 1 9 ∧
  (∀ k, k < Sn τ → bd (τ 3 k) 0 9999) ∧
  (∀ j, j < Jn τ → τ 7 j = nI (Cn τ j) ∧ 1 ≤ Cn τ j ∧ Cn τ j ≤ 5 ∧ (∀ s, An τ j ≤ s → s < En τ j → τ 11 s = nI (Gn τ s) ∧ Gn τ s < Cn τ j) ∧ ∀ s t, An τ j ≤ s → s ≤ t → t < En τ j → Gn τ s ≤ Gn τ t) ∧
  (∀ s, s < Nn τ → τ 12 s = nI (Kn τ s) ∧ Kn τ s < Sn τ ∧ bd (τ 13 s) 1 999 ∧ bd (τ 14 s) 1 99 ∧ bd (τ 15 s) 0 9)
theorem SI.S {τ : MS} (h : SI τ) : τ 2 0 = nI (Sn τ) ∧ Sn τ ≤ 6 := h.1
theorem SI.J {τ : MS} (h : SI τ) : τ 5 0 = nI (Jn τ) ∧ Jn τ ≤ 8 := h.2.1
theorem SI.N {τ : MS} (h : SI τ) : τ 10 0 = nI (Nn τ) ∧ Nn τ ≤ 40 := h.2.2.1
theorem SI.A {τ : MS} (h : SI τ) {j : Nat} (hj : j < Jn τ) : τ 8 j = nI (An τ j) ∧ τ 9 j = nI (En τ j) ∧ An τ j < En τ j ∧ En τ j ≤ Nn τ := h.2.2.2.1 j hj
theorem SI.B0 {τ : MS} (h : SI τ) : Bn τ 0 = 0 := h.2.2.2.2.1.1
theorem SI.B {τ : MS} (h : SI τ) {j : Nat} (hj : j < Jn τ) : En τ j = Bn τ (j + 1) := h.2.2.2.2.1.2 j hj
theorem SI.P {τ : MS} (h : SI τ) : bd (τ 1 0) 1 9 := h.2.2.2.2.2.1
theorem SI.L {τ : MS} (h : SI τ) {k : Nat} (hk : k < Sn τ) : bd (τ 3 k) 0 9999 := h.2.2.2.2.2.2.1 k hk
theorem SI.C {τ : MS} (h : SI τ) {j : Nat} (hj : j < Jn τ) : τ 7 j = nI (Cn τ j) ∧ 1 ≤ Cn τ j ∧ Cn τ j ≤ 5 ∧ (∀ s, An τ j ≤ s → s < En τ j → τ 11 s = nI (Gn τ s) ∧ Gn τ s < Cn τ j) ∧ ∀ s t, An τ j ≤ s → s ≤ t → t < En τ j → Gn τ s ≤ Gn τ t := h.2.2.2.2.2.2.2.1 j hj
theorem SI.K {τ : MS} (h : SI τ) {s : Nat} (hs : s < Nn τ) : τ 12 s = nI (Kn τ s) ∧ Kn τ s < Sn τ ∧ bd (τ 13 s) 1 999 ∧ bd (τ 14 s) 1 99 ∧ bd (τ 15 s) 0 9 := h.2.2.2.2.2.2.2.2 s hs
theorem SI.ord {τ : MS} (h : SI τ) {i : Nat} : ∀ {j : Nat}, i < j → j < Jn τ → En τ i ≤ An τ j := by
  intro j
  induction j with
  | zero => intro h1; omega
  | succ j ih =>
    intro h1 h2
    have e : An τ (j + 1) = En τ j := by rw [h.B (j := j) (by omega)]; unfold Bn; rw [if_pos h2]
    by_cases hij : i = j
    · subst hij; omega
    · have := ih (by omega) (by omega)
      have := (h.A (j := j) (by omega)).2.2.1
      omega
theorem SI.dis {τ : MS} (h : SI τ) {i j s : Nat} (hi : i < Jn τ) (hj : j < Jn τ) (h1 : An τ i ≤ s) (h2 : s < En τ i) (h3 : An τ j ≤ s) (h4 : s < En τ j) : i = j := by
  rcases (show i < j ∨ i = j ∨ j < i by omega) with q | q | q
  · have := h.ord q hj; omega
  · exact q
  · have := h.ord q hi; omega
theorem SI.sN {τ : MS} (h : SI τ) {j s : Nat} (hj : j < Jn τ) (h2 : s < En τ j) : s < Nn τ := by have := (h.A hj).2.2.2; omega
/-- the steps of journey j, and journey j itself, in a world -/
def LSp (τ σ : MS) (j : Nat) : Prop := ∀ s, An τ j ≤ s → s < En τ j → bd (σ 10 s) 0 9 ∧ (σ 9 s = 2 → 0 ≤ (σ 12 s).toInt ∧ (σ 12 s).toInt ≤ (σ 1 0).toInt)
def LJ (τ σ : MS) (j : Nat) : Prop := bd (σ 5 j) 0 5 ∧ (σ 5 j = 1 → ∃ p, σ 6 j = nI p ∧ p < Cn τ j) ∧ (σ 5 j = 2 → 0 ≤ (σ 8 j).toInt ∧ (σ 8 j).toInt < (τ 1 0).toInt) ∧ (σ 5 j = 5 → ∃ s, An τ j ≤ s ∧ s < En τ j ∧ σ 9 s = 3)
def LV (B : Int) (τ σ : MS) : Prop := ∀ k, k < Sn τ → bd (σ 3 k) 0 B
/-- a world whose levels are at most B, whose time is at most T -/
def WI (B T : Int) (τ σ : MS) : Prop := LV B τ σ ∧ (∀ j, j < Jn τ → LSp τ σ j ∧ LJ τ σ j) ∧ bd (σ 1 0) 0 T ∧ ∀ i, σ 1 i = σ 1 0
def relK (τ σ : MS) (d : FS) (k : Nat) : Prop := d (7 + 2 * k) = σ 3 k ∧ d (8 + 2 * k) = τ 4 k
def relJ (τ σ : MS) (d : FS) (j : Nat) : Prop := d (19 + 9 * j) = σ 5 j ∧ d (20 + 9 * j) = τ 6 j ∧ d (21 + 9 * j) = τ 7 j ∧ d (22 + 9 * j) = nI (En τ j - An τ j) ∧ (σ 5 j = 1 → d (23 + 9 * j) = σ 6 j) ∧ (σ 5 j ≠ 1 → d (23 + 9 * j) = -1) ∧ ((3 : Int32) ≤ σ 5 j → d (24 + 9 * j) = σ 7 j) ∧ (¬ (3 : Int32) ≤ σ 5 j → d (24 + 9 * j) = -1) ∧ d (25 + 9 * j) = nI (An τ j) ∧ (σ 5 j = 2 → d (26 + 9 * j) = σ 8 j)
def relS (τ σ : MS) (d : FS) (s : Nat) : Prop := d (91 + 9 * s) = τ 11 s ∧ d (92 + 9 * s) = τ 12 s ∧ d (93 + 9 * s) = τ 13 s ∧ d (94 + 9 * s) = τ 14 s ∧ d (95 + 9 * s) = σ 9 s ∧ d (96 + 9 * s) = σ 10 s ∧ d (97 + 9 * s) = σ 11 s ∧ d (98 + 9 * s) = τ 16 s ∧ (σ 9 s = 2 → d (99 + 9 * s) = σ 12 s) ∧ (σ 9 s = 1 → d (99 + 9 * s) = σ 13 s)
def relG (τ σ : MS) (d : FS) : Prop := d 0 = σ 1 0 ∧ d 1 = τ 2 0 ∧ d 2 = τ 5 0 ∧ d 3 = τ 10 0 ∧ d 4 = τ 0 0 ∧ d 5 = τ 1 0 ∧ d 6 = σ 2 0
def Rel (τ σ : MS) (d : FS) : Prop := relG τ σ d ∧ (∀ k, k < Sn τ → relK τ σ d k) ∧ (∀ j, j < Jn τ → relJ τ σ d j) ∧ ∀ s, s < Nn τ → relS τ σ d s
theorem relG.same {τ σ σ' : MS} {d d' : FS} (h : relG τ σ d) (h1 : σ' 1 0 = σ 1 0) (h2 : σ' 2 0 = σ 2 0) (hd : ∀ x, x < 7 → d' x = d x) : relG τ σ' d' := by
  obtain ⟨a0, a1, a2, a3, a4, a5, a6⟩ := h
  unfold relG
  rw [hd 0 (by decide), hd 1 (by decide), hd 2 (by decide), hd 3 (by decide), hd 4 (by decide), hd 5 (by decide), hd 6 (by decide), h1, h2]
  exact ⟨a0, a1, a2, a3, a4, a5, a6⟩
theorem relK.same {τ σ σ' : MS} {d d' : FS} {k : Nat} (h : relK τ σ d k) (h1 : σ' 3 k = σ 3 k) (hd : ∀ x, 7 + 2 * k ≤ x → x < 9 + 2 * k → d' x = d x) : relK τ σ' d' k := by
  unfold relK
  rw [hd _ (by omega) (by omega), hd _ (by omega) (by omega), h1]
  exact h
theorem relJ.same {τ σ σ' : MS} {d d' : FS} {j : Nat} (h : relJ τ σ d j) (h1 : ∀ c, 5 ≤ c → c ≤ 8 → σ' c j = σ c j) (hd : ∀ x, 19 + 9 * j ≤ x → x < 27 + 9 * j → d' x = d x) : relJ τ σ' d' j := by
  unfold relJ
  rw [hd _ (by omega) (by omega), hd _ (by omega) (by omega), hd _ (by omega) (by omega), hd _ (by omega) (by omega), hd _ (by omega) (by omega), hd _ (by omega) (by omega), hd _ (by omega) (by omega), hd _ (by omega) (by omega), h1 5 (by decide) (by decide), h1 6 (by decide) (by decide), h1 7 (by decide) (by decide), h1 8 (by decide) (by decide)]
  exact h
theorem relS.same {τ σ σ' : MS} {d d' : FS} {s : Nat} (h : relS τ σ d s) (h1 : ∀ c, 9 ≤ c → c ≤ 13 → σ' c s = σ c s) (hd : ∀ x, 91 + 9 * s ≤ x → x < 100 + 9 * s → d' x = d x) : relS τ σ' d' s := by
  unfold relS
  rw [hd _ (by omega) (by omega), hd _ (by omega) (by omega), hd _ (by omega) (by omega), hd _ (by omega) (by omega), hd _ (by omega) (by omega), hd _ (by omega) (by omega), hd _ (by omega) (by omega), hd _ (by omega) (by omega), hd _ (by omega) (by omega), h1 9 (by decide) (by decide), h1 10 (by decide) (by decide), h1 11 (by decide) (by decide), h1 12 (by decide) (by decide), h1 13 (by decide) (by decide)]
  exact h
theorem Rel.step {τ σ σ' : MS} {d d' : FS} {s : Nat} (hI : SI τ) (h : Rel τ σ d) (hs : s < Nn τ) (hσ : ∀ c i, ¬ (9 ≤ c ∧ i = s) → σ' c i = σ c i) (hd : ∀ x, x < 91 + 9 * s ∨ 100 + 9 * s ≤ x → d' x = d x) (hn : relS τ σ' d' s) : Rel τ σ' d' := by
  have h6 := hI.S.2; have h8 := hI.J.2
  obtain ⟨g, k, j, t⟩ := h
  refine ⟨g.same (hσ _ _ (by omega)) (hσ _ _ (by omega)) (fun x hx => hd x (by omega)), fun k9 hk => (k k9 hk).same (hσ _ _ (by omega)) (fun x _ _ => hd x (by omega)), fun j9 hj => (j j9 hj).same (fun c _ _ => hσ _ _ (by omega)) (fun x _ _ => hd x (by omega)), fun t9 ht => ?_⟩
  by_cases q : t9 = s
  · subst q; exact hn
  · exact (t t9 ht).same (fun c _ _ => hσ _ _ (by omega)) (fun x _ _ => hd x (by omega))
theorem Rel.jour {τ σ σ' : MS} {d d' : FS} {s : Nat} (hI : SI τ) (h : Rel τ σ d) (hs : s < Jn τ) (hσ : ∀ c i, ¬ (5 ≤ c ∧ c ≤ 8 ∧ i = s) → σ' c i = σ c i) (hd : ∀ x, x < 19 + 9 * s ∨ 28 + 9 * s ≤ x → d' x = d x) (hn : relJ τ σ' d' s) : Rel τ σ' d' := by
  have h6 := hI.S.2; have h8 := hI.J.2
  obtain ⟨g, k, j, t⟩ := h
  refine ⟨g.same (hσ _ _ (by omega)) (hσ _ _ (by omega)) (fun x hx => hd x (by omega)), fun k9 hk => (k k9 hk).same (hσ _ _ (by omega)) (fun x _ _ => hd x (by omega)), fun j9 hj => ?_, fun t9 ht => (t t9 ht).same (fun c _ _ => hσ _ _ (by omega)) (fun x _ _ => hd x (by omega))⟩
  by_cases q : j9 = s
  · subst q; exact hn
  · exact (j j9 hj).same (fun c _ _ => hσ _ _ (by omega)) (fun x _ _ => hd x (by omega))
theorem Rel.stock {τ σ σ' : MS} {d d' : FS} {s : Nat} (hI : SI τ) (h : Rel τ σ d) (hs : s < Sn τ) (hσ : ∀ c i, ¬ (c = 3 ∧ i = s) → c ≠ 4 → σ' c i = σ c i) (hd : ∀ x, x < 7 + 2 * s ∨ 9 + 2 * s ≤ x → d' x = d x) (hn : relK τ σ' d' s) : Rel τ σ' d' := by
  have h6 := hI.S.2; have h8 := hI.J.2
  obtain ⟨g, k, j, t⟩ := h
  refine ⟨g.same (hσ _ _ (by omega) (by decide)) (hσ _ _ (by omega) (by decide)) (fun x hx => hd x (by omega)), fun k9 hk => ?_, fun j9 hj => (j j9 hj).same (fun c _ _ => hσ _ _ (by omega) (by omega)) (fun x _ _ => hd x (by omega)), fun t9 ht => (t t9 ht).same (fun c _ _ => hσ _ _ (by omega) (by omega)) (fun x _ _ => hd x (by omega))⟩
  by_cases q : k9 = s
  · subst q; exact hn
  · exact (k k9 hk).same (hσ _ _ (by omega) (by decide)) (fun x _ _ => hd x (by omega))
theorem Rel.glob {τ σ σ' : MS} {d d' : FS} (h : Rel τ σ d) (hσ : ∀ c i, c ≠ 1 → c ≠ 2 → c ≠ 4 → σ' c i = σ c i) (hd : ∀ x, 7 ≤ x → d' x = d x) (hn : relG τ σ' d') : Rel τ σ' d' := by
  obtain ⟨g, k, j, t⟩ := h
  exact ⟨hn, fun k9 hk => (k k9 hk).same (hσ _ _ (by decide) (by decide) (by decide)) (fun x _ _ => hd x (by omega)), fun j9 hj => (j j9 hj).same (fun c _ _ => hσ _ _ (by omega) (by omega) (by omega)) (fun x _ _ => hd x (by omega)), fun t9 ht => (t t9 ht).same (fun c _ _ => hσ _ _ (by omega) (by omega) (by omega)) (fun x _ _ => hd x (by omega))⟩
/-- the reference's state against a world: the row, what the journeys were (w), all else as in μ0 -/
def MR (τ σ : MS) (w : Nat → Int32) (μ0 μ : MS) : Prop := Rel τ σ (μ 8) ∧ (∀ q, q ≠ 8 → μ q = μ0 q) ∧ ∀ j, j < 8 → μ 8 (27 + 9 * j) = w j
theorem u2_8 (μ : MS) (x : Nat) (v : Int32) (y : Nat) : u2 μ 8 x v 8 y = if y = x then v else μ 8 y := by rw [u2_at]; simp
theorem u2_o (μ : MS) (c x : Nat) (v : Int32) (q : Nat) (h : q ≠ c) : u2 μ c x v q = μ q := by funext i; rw [u2_at, if_neg (by simp [h])]
theorem u2_s (μ : MS) (c x : Nat) (v : Int32) : u2 μ c x v c x = v := by rw [u2_at]; simp
theorem u2_n (μ : MS) (c x : Nat) (v : Int32) (q i : Nat) (h : ¬ (q = c ∧ i = x)) : u2 μ c x v q i = μ q i := by rw [u2_at, if_neg h]
theorem MR.of {τ σ σ' : MS} {w : Nat → Int32} {μ0 μ μ' : MS} (h : MR τ σ w μ0 μ) (hR : Rel τ σ (μ 8) → Rel τ σ' (μ' 8)) (hq : ∀ q, q ≠ 8 → μ' q = μ q) (hw : ∀ j, j < 8 → μ' 8 (27 + 9 * j) = μ 8 (27 + 9 * j)) : MR τ σ' w μ0 μ' :=
  ⟨hR h.1, fun q hq8 => (hq q hq8).trans (h.2.1 q hq8), fun j hj => (hw j hj).trans (h.2.2 j hj)⟩
section UP
variable {τ σ : MS} {w : Nat → Int32} {μ0 μ : MS} {s j k : Nat} {v x t : Int32}
theorem MR.state (hI : SI τ) (h : MR τ σ w μ0 μ) (hs : s < Nn τ) (h1 : v ≠ 1) (h2 : v ≠ 2) : MR τ (u2 σ 9 s v) w μ0 (u2 μ 8 (95 + 9 * s) v) := by
  refine h.of (fun hR => ?_) (fun q hq => u2_o _ _ _ _ _ hq) (fun j hj => u2_n _ _ _ _ _ _ (by omega))
  refine Rel.step hI hR hs (fun c i hc => u2_n _ _ _ _ _ _ (by omega)) (fun y hy => u2_n _ _ _ _ _ _ (by omega)) ?_
  obtain ⟨a1, a2, a3, a4, a5, a6, a7, a8, a9, a10⟩ := hR.2.2.2 s hs
  unfold relS
  simp only [u2_at]
  simp [h1, h2, a1, a2, a3, a4, a5, a6, a7, a8]
theorem MR.ready (hI : SI τ) (h : MR τ σ w μ0 μ) (hs : s < Nn τ) : MR τ (u2 (u2 σ 9 s 1) 13 s 0) w μ0 (u2 (u2 μ 8 (95 + 9 * s) 1) 8 (99 + 9 * s) 0) := by
  refine h.of (fun hR => ?_) (fun q hq => by rw [u2_o _ _ _ _ _ hq, u2_o _ _ _ _ _ hq]) (fun j hj => by rw [u2_n _ _ _ _ _ _ (by omega), u2_n _ _ _ _ _ _ (by omega)])
  refine Rel.step hI hR hs (fun c i hc => by rw [u2_n _ _ _ _ _ _ (by omega), u2_n _ _ _ _ _ _ (by omega)]) (fun y hy => by rw [u2_n _ _ _ _ _ _ (by omega), u2_n _ _ _ _ _ _ (by omega)]) ?_
  obtain ⟨a1, a2, a3, a4, a5, a6, a7, a8, a9, a10⟩ := hR.2.2.2 s hs
  unfold relS
  simp only [u2_at]
  simp [a1, a2, a3, a4, a5, a6, a7, a8]
theorem MR.wait (hI : SI τ) (h : MR τ σ w μ0 μ) (hs : s < Nn τ) (h1 : σ 9 s = 1) : MR τ (u2 σ 13 s v) w μ0 (u2 μ 8 (99 + 9 * s) v) := by
  refine h.of (fun hR => ?_) (fun q hq => u2_o _ _ _ _ _ hq) (fun j hj => u2_n _ _ _ _ _ _ (by omega))
  refine Rel.step hI hR hs (fun c i hc => u2_n _ _ _ _ _ _ (by omega)) (fun y hy => u2_n _ _ _ _ _ _ (by omega)) ?_
  obtain ⟨a1, a2, a3, a4, a5, a6, a7, a8, a9, a10⟩ := hR.2.2.2 s hs
  unfold relS
  simp only [u2_at]
  simp [a1, a2, a3, a4, a5, a6, a7, a8, h1]
theorem MR.rep (hI : SI τ) (h : MR τ σ w μ0 μ) (hs : s < Nn τ) : MR τ (u2 σ 11 s v) w μ0 (u2 μ 8 (97 + 9 * s) v) := by
  refine h.of (fun hR => ?_) (fun q hq => u2_o _ _ _ _ _ hq) (fun j hj => u2_n _ _ _ _ _ _ (by omega))
  refine Rel.step hI hR hs (fun c i hc => u2_n _ _ _ _ _ _ (by omega)) (fun y hy => u2_n _ _ _ _ _ _ (by omega)) ?_
  obtain ⟨a1, a2, a3, a4, a5, a6, a7, a8, a9, a10⟩ := hR.2.2.2 s hs
  unfold relS
  simp only [u2_at]
  simp [a1, a2, a3, a4, a5, a6, a7, a8]
  exact ⟨a9, a10⟩
theorem MR.fls (hI : SI τ) (h : MR τ σ w μ0 μ) (hs : s < Nn τ) : MR τ (u2 σ 10 s v) w μ0 (u2 μ 8 (96 + 9 * s) v) := by
  refine h.of (fun hR => ?_) (fun q hq => u2_o _ _ _ _ _ hq) (fun j hj => u2_n _ _ _ _ _ _ (by omega))
  refine Rel.step hI hR hs (fun c i hc => u2_n _ _ _ _ _ _ (by omega)) (fun y hy => u2_n _ _ _ _ _ _ (by omega)) ?_
  obtain ⟨a1, a2, a3, a4, a5, a6, a7, a8, a9, a10⟩ := hR.2.2.2 s hs
  unfold relS
  simp only [u2_at]
  simp [a1, a2, a3, a4, a5, a6, a7, a8]
  exact ⟨a9, a10⟩
theorem MR.runs (hI : SI τ) (h : MR τ σ w μ0 μ) (hs : s < Nn τ) : MR τ (u2 (u2 σ 9 s 2) 12 s t) w μ0 (u2 (u2 μ 8 (95 + 9 * s) 2) 8 (99 + 9 * s) t) := by
  refine h.of (fun hR => ?_) (fun q hq => by rw [u2_o _ _ _ _ _ hq, u2_o _ _ _ _ _ hq]) (fun j hj => by rw [u2_n _ _ _ _ _ _ (by omega), u2_n _ _ _ _ _ _ (by omega)])
  refine Rel.step hI hR hs (fun c i hc => by rw [u2_n _ _ _ _ _ _ (by omega), u2_n _ _ _ _ _ _ (by omega)]) (fun y hy => by rw [u2_n _ _ _ _ _ _ (by omega), u2_n _ _ _ _ _ _ (by omega)]) ?_
  obtain ⟨a1, a2, a3, a4, a5, a6, a7, a8, a9, a10⟩ := hR.2.2.2 s hs
  unfold relS
  simp only [u2_at]
  simp [a1, a2, a3, a4, a5, a6, a7, a8]
theorem MR.level (hI : SI τ) (h : MR τ σ w μ0 μ) (hk : k < Sn τ) : MR τ (u2 σ 3 k v) w μ0 (u2 μ 8 (7 + 2 * k) v) := by
  have h6 := hI.S.2
  refine h.of (fun hR => ?_) (fun q hq => u2_o _ _ _ _ _ hq) (fun j hj => u2_n _ _ _ _ _ _ (by omega))
  refine Rel.stock hI hR hk (fun c i hc _ => u2_n _ _ _ _ _ _ (by omega)) (fun y hy => u2_n _ _ _ _ _ _ (by omega)) ?_
  obtain ⟨a1, a2⟩ := hR.2.1 k hk
  unfold relK
  rw [u2_s, u2_s, u2_n _ _ _ _ _ _ (by omega)]
  exact ⟨rfl, a2⟩
theorem MR.lack (hI : SI τ) (h : MR τ σ w μ0 μ) : MR τ (u2 σ 4 k v) w μ0 μ := by
  refine h.of (fun hR => ?_) (fun q hq => rfl) (fun j hj => rfl)
  refine Rel.glob hR (fun c i _ _ hc => u2_n _ _ _ _ _ _ (by omega)) (fun y hy => rfl) ?_
  exact hR.1.same (u2_n _ _ _ _ _ _ (by omega)) (u2_n _ _ _ _ _ _ (by omega)) (fun x _ => rfl)
theorem pf_n (μ : MS) (c : Nat) (v : Int32) (q i : Nat) (h : q ≠ c) : pf μ c v q i = μ q i := by rw [pf_at, if_neg h]
theorem MR.time (hI : SI τ) (h : MR τ σ w μ0 μ) : MR τ (pf σ 1 v) w μ0 (u2 μ 8 0 v) := by
  refine h.of (fun hR => ?_) (fun q hq => u2_o _ _ _ _ _ hq) (fun j hj => u2_n _ _ _ _ _ _ (by omega))
  refine Rel.glob hR (fun c i h1 _ _ => pf_n _ _ _ _ _ h1) (fun y hy => u2_n _ _ _ _ _ _ (by omega)) ?_
  obtain ⟨a0, a1, a2, a3, a4, a5, a6⟩ := hR.1
  unfold relG
  rw [u2_s, u2_n _ _ _ _ _ _ (by omega), u2_n _ _ _ _ _ _ (by omega), u2_n _ _ _ _ _ _ (by omega), u2_n _ _ _ _ _ _ (by omega), u2_n _ _ _ _ _ _ (by omega), u2_n _ _ _ _ _ _ (by omega), pf_at, if_pos rfl, pf_n _ _ _ _ _ (by decide)]
  exact ⟨rfl, a1, a2, a3, a4, a5, a6⟩
theorem MR.fail (hI : SI τ) (h : MR τ σ w μ0 μ) : MR τ (pf σ 2 v) w μ0 (u2 μ 8 6 v) := by
  refine h.of (fun hR => ?_) (fun q hq => u2_o _ _ _ _ _ hq) (fun j hj => u2_n _ _ _ _ _ _ (by omega))
  refine Rel.glob hR (fun c i _ h1 _ => pf_n _ _ _ _ _ h1) (fun y hy => u2_n _ _ _ _ _ _ (by omega)) ?_
  obtain ⟨a0, a1, a2, a3, a4, a5, a6⟩ := hR.1
  unfold relG
  rw [u2_s, u2_n _ _ _ _ _ _ (by omega), u2_n _ _ _ _ _ _ (by omega), u2_n _ _ _ _ _ _ (by omega), u2_n _ _ _ _ _ _ (by omega), u2_n _ _ _ _ _ _ (by omega), u2_n _ _ _ _ _ _ (by omega), pf_at, if_neg (by decide), pf_at, if_pos rfl]
  exact ⟨a0, a1, a2, a3, a4, a5, rfl⟩
/-- a journey comes to rest -/
theorem MR.rest (hI : SI τ) (h : MR τ σ w μ0 μ) (hj : j < Jn τ) (h1 : v ≠ 1) (h2 : v ≠ 2) (h3 : (3 : Int32) ≤ v) : MR τ (u2 (u2 σ 5 j v) 7 j t) w μ0 (u2 (u2 (u2 μ 8 (19 + 9 * j) v) 8 (24 + 9 * j) t) 8 (23 + 9 * j) (-1)) := by
  refine h.of (fun hR => ?_) (fun q hq => by rw [u2_o _ _ _ _ _ hq, u2_o _ _ _ _ _ hq, u2_o _ _ _ _ _ hq]) (fun j hj => by rw [u2_n _ _ _ _ _ _ (by omega), u2_n _ _ _ _ _ _ (by omega), u2_n _ _ _ _ _ _ (by omega)])
  refine Rel.jour hI hR hj (fun c i hc => by rw [u2_n _ _ _ _ _ _ (by omega), u2_n _ _ _ _ _ _ (by omega)]) (fun y hy => by rw [u2_n _ _ _ _ _ _ (by omega), u2_n _ _ _ _ _ _ (by omega), u2_n _ _ _ _ _ _ (by omega)]) ?_
  obtain ⟨a1, a2, a3, a4, a5, a6, a7, a8, a9, a10⟩ := hR.2.2.1 j hj
  unfold relJ
  simp only [u2_at]
  simp [a1, a2, a3, a4, a9, h1, h2, h3]
/-- a journey is undoing -/
theorem MR.undo (hI : SI τ) (h : MR τ σ w μ0 μ) (hj : j < Jn τ) : MR τ (u2 (u2 σ 5 j 2) 8 j 0) w μ0 (u2 (u2 (u2 (u2 μ 8 (19 + 9 * j) 2) 8 (23 + 9 * j) (-1)) 8 (24 + 9 * j) (-1)) 8 (26 + 9 * j) 0) := by
  refine h.of (fun hR => ?_) (fun q hq => by rw [u2_o _ _ _ _ _ hq, u2_o _ _ _ _ _ hq, u2_o _ _ _ _ _ hq, u2_o _ _ _ _ _ hq]) (fun j hj => by rw [u2_n _ _ _ _ _ _ (by omega), u2_n _ _ _ _ _ _ (by omega), u2_n _ _ _ _ _ _ (by omega), u2_n _ _ _ _ _ _ (by omega)])
  refine Rel.jour hI hR hj (fun c i hc => by rw [u2_n _ _ _ _ _ _ (by omega), u2_n _ _ _ _ _ _ (by omega)]) (fun y hy => by rw [u2_n _ _ _ _ _ _ (by omega), u2_n _ _ _ _ _ _ (by omega), u2_n _ _ _ _ _ _ (by omega), u2_n _ _ _ _ _ _ (by omega)]) ?_
  obtain ⟨a1, a2, a3, a4, a5, a6, a7, a8, a9, a10⟩ := hR.2.2.1 j hj
  unfold relJ
  simp only [u2_at]
  simp [a1, a2, a3, a4, a9]
/-- a journey goes forward, its present stage is v -/
theorem MR.forw (hI : SI τ) (h : MR τ σ w μ0 μ) (hj : j < Jn τ) : MR τ (u2 (u2 σ 5 j 1) 6 j v) w μ0 (u2 (u2 (u2 μ 8 (19 + 9 * j) 1) 8 (24 + 9 * j) (-1)) 8 (23 + 9 * j) v) := by
  refine h.of (fun hR => ?_) (fun q hq => by rw [u2_o _ _ _ _ _ hq, u2_o _ _ _ _ _ hq, u2_o _ _ _ _ _ hq]) (fun j hj => by rw [u2_n _ _ _ _ _ _ (by omega), u2_n _ _ _ _ _ _ (by omega), u2_n _ _ _ _ _ _ (by omega)])
  refine Rel.jour hI hR hj (fun c i hc => by rw [u2_n _ _ _ _ _ _ (by omega), u2_n _ _ _ _ _ _ (by omega)]) (fun y hy => by rw [u2_n _ _ _ _ _ _ (by omega), u2_n _ _ _ _ _ _ (by omega), u2_n _ _ _ _ _ _ (by omega)]) ?_
  obtain ⟨a1, a2, a3, a4, a5, a6, a7, a8, a9, a10⟩ := hR.2.2.1 j hj
  unfold relJ
  simp only [u2_at]
  simp [a1, a2, a3, a4, a9]
theorem MR.forw0 (hI : SI τ) (h : MR τ σ w μ0 μ) (hj : j < Jn τ) (h0 : σ 5 j = 0) : MR τ (u2 (u2 σ 5 j 1) 6 j v) w μ0 (u2 (u2 μ 8 (19 + 9 * j) 1) 8 (23 + 9 * j) v) := by
  refine h.of (fun hR => ?_) (fun q hq => by rw [u2_o _ _ _ _ _ hq, u2_o _ _ _ _ _ hq]) (fun j hj => by rw [u2_n _ _ _ _ _ _ (by omega), u2_n _ _ _ _ _ _ (by omega)])
  refine Rel.jour hI hR hj (fun c i hc => by rw [u2_n _ _ _ _ _ _ (by omega), u2_n _ _ _ _ _ _ (by omega)]) (fun y hy => by rw [u2_n _ _ _ _ _ _ (by omega), u2_n _ _ _ _ _ _ (by omega)]) ?_
  obtain ⟨a1, a2, a3, a4, a5, a6, a7, a8, a9, a10⟩ := hR.2.2.1 j hj
  have a8 := a8 (by rw [h0]; decide)
  unfold relJ
  simp only [u2_at]
  simp [a1, a2, a3, a4, a9, a8]
theorem MR.pres (hI : SI τ) (h : MR τ σ w μ0 μ) (hj : j < Jn τ) (h0 : σ 5 j = 1) : MR τ (u2 σ 6 j v) w μ0 (u2 μ 8 (23 + 9 * j) v) := by
  refine h.of (fun hR => ?_) (fun q hq => by rw [u2_o _ _ _ _ _ hq]) (fun j hj => by rw [u2_n _ _ _ _ _ _ (by omega)])
  refine Rel.jour hI hR hj (fun c i hc => by rw [u2_n _ _ _ _ _ _ (by omega)]) (fun y hy => by rw [u2_n _ _ _ _ _ _ (by omega)]) ?_
  obtain ⟨a1, a2, a3, a4, a5, a6, a7, a8, a9, a10⟩ := hR.2.2.1 j hj
  have a8 := a8 (by rw [h0]; decide)
  unfold relJ
  simp only [u2_at]
  simp [a1, a2, a3, a4, a9, a8, h0]
/-- how often the undo has failed -/
theorem MR.uf (hI : SI τ) (h : MR τ σ w μ0 μ) (hj : j < Jn τ) : MR τ (u2 σ 8 j v) w μ0 (u2 μ 8 (26 + 9 * j) v) := by
  refine h.of (fun hR => ?_) (fun q hq => u2_o _ _ _ _ _ hq) (fun j hj => u2_n _ _ _ _ _ _ (by omega))
  refine Rel.jour hI hR hj (fun c i hc => u2_n _ _ _ _ _ _ (by omega)) (fun y hy => u2_n _ _ _ _ _ _ (by omega)) ?_
  obtain ⟨a1, a2, a3, a4, a5, a6, a7, a8, a9, a10⟩ := hR.2.2.1 j hj
  unfold relJ
  simp only [u2_at]
  simp [a1, a2, a3, a4, a9]
  exact ⟨a5, a6, a7, fun q => a8 (Int32.not_le.mpr q)⟩
/-- what a journey was -/
theorem MR.was (hI : SI τ) (h : MR τ σ w μ0 μ) (hj : j < Jn τ) : MR τ σ (upd w j v) μ0 (u2 μ 8 (27 + 9 * j) v) := by
  refine ⟨?_, fun q hq => (u2_o _ _ _ _ _ hq).trans (h.2.1 q hq), fun i hi => ?_⟩
  · refine Rel.jour hI h.1 hj (fun c i hc => rfl) (fun y hy => u2_n _ _ _ _ _ _ (by omega)) ?_
    exact (h.1.2.2.1 j hj).same (fun _ _ _ => rfl) (fun y h1 h2 => u2_n _ _ _ _ _ _ (by omega))
  · rw [u2_8, h.2.2 i hi]
    unfold upd
    by_cases q : i = j
    · rw [if_pos (by omega), if_pos q]
    · rw [if_neg (by omega), if_neg q]
end UP
