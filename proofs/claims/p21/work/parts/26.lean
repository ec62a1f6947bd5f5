/-! pure: the checks of both sides; the methods that only tell -/
theorem pf8 (μ : MS) (x : Int32) : pf μ 0 x 8 = μ 8 := rfl
theorem pfo (μ : MS) (x : Int32) (q : Nat) (h : q ≠ 0) : pf μ 0 x q = μ q := by funext i; rw [pf_at, if_neg h]
theorem pf00 (μ : MS) (x : Int32) : pf μ 0 x 0 0 = x := by rw [pf_at, if_pos rfl]
theorem pf0f (μ : MS) (x y : Int32) : pf (pf μ 0 x) 0 y = pf μ 0 y := by
  funext q i
  rw [pf_at, pf_at, pf_at]
  by_cases h : q = 0 <;> simp [h]
def outJ (τ : MS) (i : Int32) : Bool := decide (i < 0) || decide (¬ i < τ 5 0)
def outS (τ : MS) (i : Int32) : Bool := decide (i < 0) || decide (¬ i < τ 2 0)
def outW (i n : Int32) : Bool := decide (i < 0) || decide (¬ i < n)
theorem outW_F {i n : Int32} {m : Nat} (hn : n = nI m) (hm : m < 2 ^ 31) (h : outW i n = false) : ∃ q, q < m ∧ i = nI q := by
  subst hn
  unfold outW at h
  simp only [Bool.or_eq_false_iff, decide_eq_false_iff_not, Classical.not_not] at h
  obtain ⟨h1, h2⟩ := h
  have h0 : (0 : Int32).toInt = 0 := rfl
  rw [ltI, h0] at h1
  rw [ltI, nI_toInt hm] at h2
  refine ⟨nv i, ?_, nI_nv (by omega)⟩
  unfold nv; omega
theorem b01_n (b : Bool) : (if b01 (!b) = 0 then some (1 : Int32) else some 0) = some (b01 b) := by cases b <;> rfl
section CK
variable {τ σ : MS} {μ : MS} {F : Nat} {i : Int32}
theorem outJ_F (hI : SI τ) (h : outJ τ i = false) : ∃ j, j < Jn τ ∧ i = nI j := outW_F hI.J.1 (by have := hI.J.2; omega) h
theorem outS_F (hI : SI τ) (h : outS τ i = false) : ∃ j, j < Sn τ ∧ i = nI j := outW_F hI.S.1 (by have := hI.S.2; omega) h
variable {τs : WS} {n : Nat} {pa : PA} {β : FS} {υ : MS} {ω : WS} {sid : PA} {m : Int32}
theorem c_ckW : mX3_checkWhat F τs n pa β υ ω sid i m = some (if outW i m then .inl "java/lang/IllegalArgumentException" else .inr ()) := by
  unfold mX3_checkWhat outW
  by_cases h1 : i < 0 <;> by_cases h2 : i < m <;> simp [h1, h2, ob1, cnd]
theorem c_ckJ (hg : gW sid n 0 = some ()) : mX3_checkJourney F τs n pa β υ ω sid i = some (if outJ (τs (sid 0)) i then .inl "java/lang/IndexOutOfBoundsException" else .inr ()) := by
  unfold mX3_checkJourney outJ
  rw [hg]
  by_cases h1 : i < 0 <;> by_cases h2 : i < τs (sid 0) 5 0 <;> simp [h1, h2, ob1, cnd]
theorem c_ckS (hg : gW sid n 0 = some ()) : mX3_checkStock F τs n pa β υ ω sid i = some (if outS (τs (sid 0)) i then .inl "java/lang/IndexOutOfBoundsException" else .inr ()) := by
  unfold mX3_checkStock outS
  rw [hg]
  by_cases h1 : i < 0 <;> by_cases h2 : i < τs (sid 0) 2 0 <;> simp [h1, h2, ob1, cnd]
end CK
theorem obX_L {α γ : Type} (E : String) (f : α → Option (String ⊕ γ)) : obX (some (.inl E)) f = some (.inl E) := rfl
theorem obX_R {α γ : Type} (x : α) (f : α → Option (String ⊕ γ)) : obX (some (.inr x)) f = f x := rfl
theorem ift {α : Type} {b : Bool} {x y : α} (h : b = true) : (if b then x else y) = x := by rw [h]; rfl
theorem iff' {α : Type} {b : Bool} {x y : α} (h : b = false) : (if b then x else y) = y := by rw [h]; rfl
