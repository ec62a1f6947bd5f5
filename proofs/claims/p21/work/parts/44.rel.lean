/-! pure: the law's world against the class's -/
def u3 (Ψ : WS) (j i c : Nat) (v : Int32) : WS := va_up Ψ j (u2 (Ψ j) i c v)
theorem u3_n (Ψ : WS) (j i c : Nat) (v : Int32) (j' i' : Nat) (h : ¬ (j' = j ∧ i' = i)) : u3 Ψ j i c v j' i' = Ψ j' i' := by
  unfold u3 va_up
  by_cases q : j' = j
  · subst q
    rw [if_pos rfl]
    funext x
    rw [u2_at, if_neg (fun z => h ⟨rfl, z.1⟩)]
  · rw [if_neg q]
theorem u3_at (Ψ : WS) (j i c : Nat) (v : Int32) (c' : Nat) : u3 Ψ j i c v j i c' = if c' = c then v else Ψ j i c' := by
  unfold u3
  rw [va_up_self, u2_at]
  by_cases q : c' = c
  · rw [if_pos ⟨rfl, q⟩, if_pos q]
  · rw [if_neg (fun z => q z.2), if_neg q]
theorem u3_0 (Ψ : WS) (j i c : Nat) (v : Int32) (j' : Nat) (h : j' ≠ j) : u3 Ψ j i c v j' = Ψ j' := va_up_ne _ _ h
def lG (τ σ ζ : MS) : Prop := ζ 0 0 = σ 1 0 ∧ ζ 1 0 = τ 0 0 ∧ ζ 2 0 = τ 1 0 ∧ ζ 3 0 = σ 2 0
def lK (τ σ : MS) (f : FS) (k : Nat) : Prop := f 0 = σ 3 k ∧ f 1 = τ 4 k
def lJ (τ σ φ : MS) (j : Nat) : Prop := φ 0 0 = τ 6 j ∧ φ 1 0 = τ 7 j ∧ φ 2 0 = σ 5 j ∧ (σ 5 j = 1 → φ 3 0 = σ 6 j) ∧ (σ 5 j ≠ 1 → φ 3 0 = -1) ∧ ((3 : Int32) ≤ σ 5 j → φ 4 0 = σ 7 j) ∧ (¬ (3 : Int32) ≤ σ 5 j → φ 4 0 = -1) ∧ (σ 5 j = 2 → φ 5 0 = σ 8 j)
def lS (τ σ : MS) (f : FS) (s : Nat) : Prop := f 0 = τ 11 s ∧ f 1 = τ 12 s ∧ f 2 = τ 13 s ∧ f 3 = τ 14 s ∧ f 4 = σ 9 s ∧ f 5 = σ 10 s ∧ f 6 = σ 11 s ∧ f 7 = τ 16 s ∧ (σ 9 s = 2 → f 8 = σ 12 s) ∧ (σ 9 s = 1 → f 8 = σ 13 s)
def LW (τ σ ζ κ : MS) (Φ Ψ : WS) : Prop := lG τ σ ζ ∧ (∀ k, k < Sn τ → lK τ σ (κ k) k) ∧ (∀ j, j < Jn τ → lJ τ σ (Φ j) j) ∧ ∀ j, j < Jn τ → ∀ i, An τ j + i < En τ j → lS τ σ (Ψ j i) (An τ j + i)
def NR (τ : MS) (Ns : PA) : Prop := ∀ j, j < Jn τ → Ns j = En τ j - An τ j
theorem lG.same {τ σ σ' ζ ζ' : MS} (h : lG τ σ ζ) (h1 : σ' 1 0 = σ 1 0) (h2 : σ' 2 0 = σ 2 0) (hz : ∀ c, ζ' c 0 = ζ c 0) : lG τ σ' ζ' := by
  unfold lG
  rw [hz, hz, hz, hz, h1, h2]
  exact h
theorem lK.same {τ σ σ' : MS} {f f' : FS} {k : Nat} (h : lK τ σ f k) (h1 : σ' 3 k = σ 3 k) (hf : f' = f) : lK τ σ' f' k := by
  subst hf
  unfold lK
  rw [h1]
  exact h
theorem lJ.same {τ σ σ' φ φ' : MS} {j : Nat} (h : lJ τ σ φ j) (h1 : ∀ c, 5 ≤ c → c ≤ 8 → σ' c j = σ c j) (hf : φ' = φ) : lJ τ σ' φ' j := by
  subst hf
  unfold lJ
  rw [h1 5 (by decide) (by decide), h1 6 (by decide) (by decide), h1 7 (by decide) (by decide), h1 8 (by decide) (by decide)]
  exact h
theorem lS.same {τ σ σ' : MS} {f f' : FS} {s : Nat} (h : lS τ σ f s) (h1 : ∀ c, 9 ≤ c → c ≤ 13 → σ' c s = σ c s) (hf : f' = f) : lS τ σ' f' s := by
  subst hf
  unfold lS
  rw [h1 9 (by decide) (by decide), h1 10 (by decide) (by decide), h1 11 (by decide) (by decide), h1 12 (by decide) (by decide), h1 13 (by decide) (by decide)]
  exact h
section UP
variable {τ σ σ' ζ ζ' κ κ' : MS} {Φ Φ' Ψ Ψ' : WS} {s j i k : Nat} {v x t : Int32}
/-- one step has changed -/
theorem LW.step (hI : SI τ) (h : LW τ σ ζ κ Φ Ψ) (hj : j < Jn τ) (hi : An τ j + i < En τ j) (hσ : ∀ c q, ¬ (9 ≤ c ∧ q = An τ j + i) → c ≠ 4 → σ' c q = σ c q) (hΨ : ∀ j' i', ¬ (j' = j ∧ i' = i) → Ψ' j' i' = Ψ j' i') (hn : lS τ σ' (Ψ' j i) (An τ j + i)) : LW τ σ' ζ κ Φ Ψ' := by
  obtain ⟨a, b, c, d⟩ := h
  refine ⟨a.same (hσ _ _ (by omega) (by decide)) (hσ _ _ (by omega) (by decide)) (fun _ => rfl), fun k hk => (b k hk).same (hσ _ _ (by omega) (by decide)) rfl, fun j' hj' => (c j' hj').same (fun c' _ _ => hσ _ _ (by omega) (by omega)) rfl, fun j' hj' i' hi' => ?_⟩
  by_cases q : j' = j ∧ i' = i
  · obtain ⟨rfl, rfl⟩ := q
    exact hn
  · refine (d j' hj' i' hi').same (fun c' h1 _ => hσ _ _ ?_ (by omega)) (hΨ j' i' q)
    rintro ⟨-, e⟩
    have hjj : j' = j := hI.dis (s := An τ j + i) hj' hj (by omega) (by omega) (by omega) hi
    subst hjj
    exact q ⟨rfl, by omega⟩
/-- one journey has changed -/
theorem LW.jour (h : LW τ σ ζ κ Φ Ψ) (hσ : ∀ c q, ¬ (5 ≤ c ∧ c ≤ 8 ∧ q = j) → σ' c q = σ c q) (hΦ : ∀ j', j' ≠ j → Φ' j' = Φ j') (hn : lJ τ σ' (Φ' j) j) : LW τ σ' ζ κ Φ' Ψ := by
  obtain ⟨a, b, c, d⟩ := h
  refine ⟨a.same (hσ _ _ (by omega)) (hσ _ _ (by omega)) (fun _ => rfl), fun k hk => (b k hk).same (hσ _ _ (by omega)) rfl, fun j' hj' => ?_, fun j' hj' i' hi' => (d j' hj' i' hi').same (fun c' _ _ => hσ _ _ (by omega)) rfl⟩
  by_cases q : j' = j
  · subst q; exact hn
  · exact (c j' hj').same (fun c' _ _ => hσ _ _ (by omega)) (hΦ j' q)
/-- one stock has changed -/
theorem LW.stock (h : LW τ σ ζ κ Φ Ψ) (hσ : ∀ c q, ¬ (c = 3 ∧ q = k) → c ≠ 4 → σ' c q = σ c q) (hκ : ∀ k', k' ≠ k → κ' k' = κ k') (hn : lK τ σ' (κ' k) k) : LW τ σ' ζ κ' Φ Ψ := by
  obtain ⟨a, b, c, d⟩ := h
  refine ⟨a.same (hσ _ _ (by omega) (by decide)) (hσ _ _ (by omega) (by decide)) (fun _ => rfl), fun k' hk' => ?_, fun j' hj' => (c j' hj').same (fun c' _ _ => hσ _ _ (by omega) (by omega)) rfl, fun j' hj' i' hi' => (d j' hj' i' hi').same (fun c' _ _ => hσ _ _ (by omega) (by omega)) rfl⟩
  by_cases q : k' = k
  · subst q; exact hn
  · exact (b k' hk').same (hσ _ _ (by omega) (by decide)) (hκ k' q)
/-- time, failures -/
theorem LW.glob (h : LW τ σ ζ κ Φ Ψ) (hσ : ∀ c q, c ≠ 1 → c ≠ 2 → c ≠ 4 → σ' c q = σ c q) (hn : lG τ σ' ζ') : LW τ σ' ζ' κ Φ Ψ := by
  obtain ⟨a, b, c, d⟩ := h
  exact ⟨hn, fun k' hk' => (b k' hk').same (hσ _ _ (by decide) (by decide) (by decide)) rfl, fun j' hj' => (c j' hj').same (fun c' _ _ => hσ _ _ (by omega) (by omega) (by omega)) rfl, fun j' hj' i' hi' => (d j' hj' i' hi').same (fun c' _ _ => hσ _ _ (by omega) (by omega) (by omega)) rfl⟩
theorem LW.ls (h : LW τ σ ζ κ Φ Ψ) (hj : j < Jn τ) (hi : An τ j + i < En τ j) : lS τ σ (Ψ j i) (An τ j + i) := h.2.2.2 j hj i hi
theorem LW.lj (h : LW τ σ ζ κ Φ Ψ) (hj : j < Jn τ) : lJ τ σ (Φ j) j := h.2.2.1 j hj
theorem LW.lk (h : LW τ σ ζ κ Φ Ψ) (hk : k < Sn τ) : lK τ σ (κ k) k := h.2.1 k hk
theorem LW.lg (h : LW τ σ ζ κ Φ Ψ) : lG τ σ ζ := h.1
theorem LW.state (hI : SI τ) (h : LW τ σ ζ κ Φ Ψ) (hj : j < Jn τ) (hi : An τ j + i < En τ j) (h1 : v ≠ 1) (h2 : v ≠ 2) : LW τ (u2 σ 9 (An τ j + i) v) ζ κ Φ (u3 Ψ j i 4 v) := by
  refine h.step hI hj hi (fun c q hc _ => u2_n _ _ _ _ _ _ (by omega)) (fun j' i' q => u3_n _ _ _ _ _ _ _ q) ?_
  obtain ⟨a1, a2, a3, a4, a5, a6, a7, a8, a9, a10⟩ := h.ls hj hi
  unfold lS
  simp only [u2_at, u3_at]
  simp [h1, h2, a1, a2, a3, a4, a5, a6, a7, a8]
/-- a step waits longer, or fails while it waits: what it has waited is told of those that are ready alone -/
theorem LW.failw (hI : SI τ) (h : LW τ σ ζ κ Φ Ψ) (hj : j < Jn τ) (hi : An τ j + i < En τ j) : LW τ (u2 σ 9 (An τ j + i) 4) ζ κ Φ (u3 (u3 Ψ j i 4 4) j i 8 v) := by
  refine h.step hI hj hi (fun c q hc _ => u2_n _ _ _ _ _ _ (by omega)) (fun j' i' q => by rw [u3_n _ _ _ _ _ _ _ q, u3_n _ _ _ _ _ _ _ q]) ?_
  obtain ⟨a1, a2, a3, a4, a5, a6, a7, a8, a9, a10⟩ := h.ls hj hi
  unfold lS
  simp only [u2_at, u3_at]
  simp [a1, a2, a3, a4, a5, a6, a7, a8]
theorem LW.wait (hI : SI τ) (h : LW τ σ ζ κ Φ Ψ) (hj : j < Jn τ) (hi : An τ j + i < En τ j) (h1 : σ 9 (An τ j + i) = 1) : LW τ (u2 σ 13 (An τ j + i) v) ζ κ Φ (u3 Ψ j i 8 v) := by
  refine h.step hI hj hi (fun c q hc _ => u2_n _ _ _ _ _ _ (by omega)) (fun j' i' q => u3_n _ _ _ _ _ _ _ q) ?_
  obtain ⟨a1, a2, a3, a4, a5, a6, a7, a8, a9, a10⟩ := h.ls hj hi
  unfold lS
  simp only [u2_at, u3_at]
  simp [a1, a2, a3, a4, a5, a6, a7, a8, h1]
theorem LW.ready (hI : SI τ) (h : LW τ σ ζ κ Φ Ψ) (hj : j < Jn τ) (hi : An τ j + i < En τ j) : LW τ (u2 (u2 σ 9 (An τ j + i) 1) 13 (An τ j + i) 0) ζ κ Φ (u3 (u3 Ψ j i 4 1) j i 8 0) := by
  refine h.step hI hj hi (fun c q hc _ => by rw [u2_n _ _ _ _ _ _ (by omega), u2_n _ _ _ _ _ _ (by omega)]) (fun j' i' q => by rw [u3_n _ _ _ _ _ _ _ q, u3_n _ _ _ _ _ _ _ q]) ?_
  obtain ⟨a1, a2, a3, a4, a5, a6, a7, a8, a9, a10⟩ := h.ls hj hi
  unfold lS
  simp only [u2_at, u3_at]
  simp [a1, a2, a3, a4, a5, a6, a7, a8]
theorem LW.runs (hI : SI τ) (h : LW τ σ ζ κ Φ Ψ) (hj : j < Jn τ) (hi : An τ j + i < En τ j) : LW τ (u2 (u2 σ 9 (An τ j + i) 2) 12 (An τ j + i) t) ζ κ Φ (u3 (u3 Ψ j i 4 2) j i 8 t) := by
  refine h.step hI hj hi (fun c q hc _ => by rw [u2_n _ _ _ _ _ _ (by omega), u2_n _ _ _ _ _ _ (by omega)]) (fun j' i' q => by rw [u3_n _ _ _ _ _ _ _ q, u3_n _ _ _ _ _ _ _ q]) ?_
  obtain ⟨a1, a2, a3, a4, a5, a6, a7, a8, a9, a10⟩ := h.ls hj hi
  unfold lS
  simp only [u2_at, u3_at]
  simp [a1, a2, a3, a4, a5, a6, a7, a8]
theorem LW.rep (hI : SI τ) (h : LW τ σ ζ κ Φ Ψ) (hj : j < Jn τ) (hi : An τ j + i < En τ j) : LW τ (u2 σ 11 (An τ j + i) v) ζ κ Φ (u3 Ψ j i 6 v) := by
  refine h.step hI hj hi (fun c q hc _ => u2_n _ _ _ _ _ _ (by omega)) (fun j' i' q => u3_n _ _ _ _ _ _ _ q) ?_
  obtain ⟨a1, a2, a3, a4, a5, a6, a7, a8, a9, a10⟩ := h.ls hj hi
  unfold lS
  simp only [u2_at, u3_at]
  simp [a1, a2, a3, a4, a5, a6, a7, a8]
  exact ⟨a9, a10⟩
theorem LW.fls (hI : SI τ) (h : LW τ σ ζ κ Φ Ψ) (hj : j < Jn τ) (hi : An τ j + i < En τ j) : LW τ (u2 σ 10 (An τ j + i) v) ζ κ Φ (u3 Ψ j i 5 v) := by
  refine h.step hI hj hi (fun c q hc _ => u2_n _ _ _ _ _ _ (by omega)) (fun j' i' q => u3_n _ _ _ _ _ _ _ q) ?_
  obtain ⟨a1, a2, a3, a4, a5, a6, a7, a8, a9, a10⟩ := h.ls hj hi
  unfold lS
  simp only [u2_at, u3_at]
  simp [a1, a2, a3, a4, a5, a6, a7, a8]
  exact ⟨a9, a10⟩
theorem LW.level (h : LW τ σ ζ κ Φ Ψ) (hk : k < Sn τ) : LW τ (u2 σ 3 k v) ζ (u2 κ k 0 v) Φ Ψ := by
  refine h.stock (k := k) (fun c q hc _ => u2_n _ _ _ _ _ _ (by omega)) (fun k' q => va_up_ne _ _ q) ?_
  obtain ⟨a1, a2⟩ := h.lk hk
  unfold lK
  rw [u2_s, u2_s, u2_n _ _ _ _ _ _ (by omega)]
  exact ⟨rfl, a2⟩
theorem LW.lack (h : LW τ σ ζ κ Φ Ψ) : LW τ (u2 σ 4 k v) ζ κ Φ Ψ := h.glob (fun c q _ _ hc => u2_n _ _ _ _ _ _ (by omega)) (h.lg.same (u2_n _ _ _ _ _ _ (by omega)) (u2_n _ _ _ _ _ _ (by omega)) (fun _ => rfl))
theorem LW.time (h : LW τ σ ζ κ Φ Ψ) : LW τ (pf σ 1 v) (pf ζ 0 v) κ Φ Ψ := by
  refine h.glob (fun c q h1 _ _ => pf_n _ _ _ _ _ h1) ?_
  obtain ⟨a0, a1, a2, a3⟩ := h.lg
  unfold lG
  simp only [pf_at]
  simp [a1, a2, a3]
theorem LW.fail (h : LW τ σ ζ κ Φ Ψ) : LW τ (pf σ 2 v) (pf ζ 3 v) κ Φ Ψ := by
  refine h.glob (fun c q _ h1 _ => pf_n _ _ _ _ _ h1) ?_
  obtain ⟨a0, a1, a2, a3⟩ := h.lg
  unfold lG
  simp only [pf_at]
  simp [a0, a1, a2]
theorem LW.rest (h : LW τ σ ζ κ Φ Ψ) (hj : j < Jn τ) (h1 : v ≠ 1) (h2 : v ≠ 2) (h3 : (3 : Int32) ≤ v) : LW τ (u2 (u2 σ 5 j v) 7 j t) ζ κ (va_up Φ j (pf (pf (pf (Φ j) 2 v) 3 (-1)) 4 t)) Ψ := by
  refine h.jour (j := j) (fun c q hc => by rw [u2_n _ _ _ _ _ _ (by omega), u2_n _ _ _ _ _ _ (by omega)]) (fun j' q => va_up_ne _ _ q) ?_
  obtain ⟨a1, a2, a3, a4, a5, a6, a7, a8⟩ := h.lj hj
  rw [va_up_self]
  unfold lJ
  simp only [u2_at, pf_at]
  simp [a1, a2, h1, h2, h3]
theorem LW.undo (h : LW τ σ ζ κ Φ Ψ) (hj : j < Jn τ) : LW τ (u2 (u2 σ 5 j 2) 8 j 0) ζ κ (va_up Φ j (pf (pf (pf (pf (Φ j) 2 2) 3 (-1)) 4 (-1)) 5 0)) Ψ := by
  refine h.jour (j := j) (fun c q hc => by rw [u2_n _ _ _ _ _ _ (by omega), u2_n _ _ _ _ _ _ (by omega)]) (fun j' q => va_up_ne _ _ q) ?_
  obtain ⟨a1, a2, a3, a4, a5, a6, a7, a8⟩ := h.lj hj
  rw [va_up_self]
  unfold lJ
  simp only [u2_at, pf_at]
  simp [a1, a2]
theorem LW.pres (h : LW τ σ ζ κ Φ Ψ) (hj : j < Jn τ) (h0 : σ 5 j = 1) : LW τ (u2 σ 6 j v) ζ κ (va_up Φ j (pf (Φ j) 3 v)) Ψ := by
  refine h.jour (j := j) (fun c q hc => by rw [u2_n _ _ _ _ _ _ (by omega)]) (fun j' q => va_up_ne _ _ q) ?_
  obtain ⟨a1, a2, a3, a4, a5, a6, a7, a8⟩ := h.lj hj
  have a7 := a7 (by rw [h0]; decide)
  rw [va_up_self]
  unfold lJ
  simp only [u2_at, pf_at]
  simp [a1, a2, a3, a7, h0]
theorem LW.forw0 (h : LW τ σ ζ κ Φ Ψ) (hj : j < Jn τ) (h0 : σ 5 j = 0) : LW τ (u2 (u2 σ 5 j 1) 6 j v) ζ κ (va_up Φ j (pf (pf (Φ j) 2 1) 3 v)) Ψ := by
  refine h.jour (j := j) (fun c q hc => by rw [u2_n _ _ _ _ _ _ (by omega), u2_n _ _ _ _ _ _ (by omega)]) (fun j' q => va_up_ne _ _ q) ?_
  obtain ⟨a1, a2, a3, a4, a5, a6, a7, a8⟩ := h.lj hj
  have a7 := a7 (by rw [h0]; decide)
  rw [va_up_self]
  unfold lJ
  simp only [u2_at, pf_at]
  simp [a1, a2, a7]
theorem LW.forw (h : LW τ σ ζ κ Φ Ψ) (hj : j < Jn τ) : LW τ (u2 (u2 σ 5 j 1) 6 j v) ζ κ (va_up Φ j (pf (pf (pf (Φ j) 2 1) 4 (-1)) 3 v)) Ψ := by
  refine h.jour (j := j) (fun c q hc => by rw [u2_n _ _ _ _ _ _ (by omega), u2_n _ _ _ _ _ _ (by omega)]) (fun j' q => va_up_ne _ _ q) ?_
  obtain ⟨a1, a2, a3, a4, a5, a6, a7, a8⟩ := h.lj hj
  rw [va_up_self]
  unfold lJ
  simp only [u2_at, pf_at]
  simp [a1, a2]
/-- how often the undo has failed -/
theorem LW.uf (h : LW τ σ ζ κ Φ Ψ) (hj : j < Jn τ) : LW τ (u2 σ 8 j v) ζ κ (va_up Φ j (pf (Φ j) 5 v)) Ψ := by
  refine h.jour (j := j) (fun c q hc => by rw [u2_n _ _ _ _ _ _ (by omega)]) (fun j' q => va_up_ne _ _ q) ?_
  obtain ⟨a1, a2, a3, a4, a5, a6, a7, a8⟩ := h.lj hj
  rw [va_up_self]
  unfold lJ
  simp only [u2_at, pf_at]
  simp [a1, a2, a3]
  exact ⟨a4, a5, a6, fun q => a7 (Int32.not_le.mpr q)⟩
end UP
theorem va_uu {α : Type} (f : Nat → α) (k : Nat) (a b : α) : va_up (va_up f k a) k b = va_up f k b := by
  funext q
  by_cases h : q = k
  · subst h; rw [va_up_self, va_up_self]
  · rw [va_up_ne _ _ h, va_up_ne _ _ h, va_up_ne _ _ h]
theorem hixn_at {n i : Nat} (h : i < n) (hn : n < 2 ^ 31) : hixn n (nI i) = some i := by
  unfold hixn
  have h9 : ¬ (nI i < 0 ∨ n ≤ (nI i).toNatClampNeg) := vp_in_nI h hn
  rw [if_neg h9, nI_clamp (by omega)]
theorem rq_0 (f : FS) : rd f 9 (0 : Int32) = some (f 0) := rdn (x := (0 : Int32)) (i := 0) rfl (by decide) (by decide)
theorem rq_1 (f : FS) : rd f 9 (1 : Int32) = some (f 1) := rdn (x := (1 : Int32)) (i := 1) rfl (by decide) (by decide)
theorem rq_2 (f : FS) : rd f 9 (2 : Int32) = some (f 2) := rdn (x := (2 : Int32)) (i := 2) rfl (by decide) (by decide)
theorem rq_3 (f : FS) : rd f 9 (3 : Int32) = some (f 3) := rdn (x := (3 : Int32)) (i := 3) rfl (by decide) (by decide)
theorem rq_4 (f : FS) : rd f 9 (4 : Int32) = some (f 4) := rdn (x := (4 : Int32)) (i := 4) rfl (by decide) (by decide)
theorem rq_5 (f : FS) : rd f 9 (5 : Int32) = some (f 5) := rdn (x := (5 : Int32)) (i := 5) rfl (by decide) (by decide)
theorem rq_6 (f : FS) : rd f 9 (6 : Int32) = some (f 6) := rdn (x := (6 : Int32)) (i := 6) rfl (by decide) (by decide)
theorem rq_7 (f : FS) : rd f 9 (7 : Int32) = some (f 7) := rdn (x := (7 : Int32)) (i := 7) rfl (by decide) (by decide)
theorem rq_8 (f : FS) : rd f 9 (8 : Int32) = some (f 8) := rdn (x := (8 : Int32)) (i := 8) rfl (by decide) (by decide)
theorem rk_0 (f : FS) : rd f 2 (0 : Int32) = some (f 0) := rdn (x := (0 : Int32)) (i := 0) rfl (by decide) (by decide)
theorem rk_1 (f : FS) : rd f 2 (1 : Int32) = some (f 1) := rdn (x := (1 : Int32)) (i := 1) rfl (by decide) (by decide)
theorem wq_4 (ψ : MS) (i : Nat) (v : Int32) : wra ψ i 9 (4 : Int32) v = some (u2 ψ i 4 v) := wrn (x := (4 : Int32)) (i := 4) rfl (by decide) (by decide)
theorem wq_5 (ψ : MS) (i : Nat) (v : Int32) : wra ψ i 9 (5 : Int32) v = some (u2 ψ i 5 v) := wrn (x := (5 : Int32)) (i := 5) rfl (by decide) (by decide)
theorem wq_6 (ψ : MS) (i : Nat) (v : Int32) : wra ψ i 9 (6 : Int32) v = some (u2 ψ i 6 v) := wrn (x := (6 : Int32)) (i := 6) rfl (by decide) (by decide)
theorem wq_8 (ψ : MS) (i : Nat) (v : Int32) : wra ψ i 9 (8 : Int32) v = some (u2 ψ i 8 v) := wrn (x := (8 : Int32)) (i := 8) rfl (by decide) (by decide)
theorem wk_0 (κ : MS) (k : Nat) (v : Int32) : wra κ k 2 (0 : Int32) v = some (u2 κ k 0 v) := wrn (x := (0 : Int32)) (i := 0) rfl (by decide) (by decide)
