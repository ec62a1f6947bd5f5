/-! pure: the checksum -/
def ck (f : Nat → Int32) (k : Nat) (v : Int64) : Int64 := 31 * v + (f k).toInt64
def vA (F : Nat) (τ σ : MS) (q : Nat) : Int32 := (mX2_numberOfAll F τ σ (nI q)).getD 0
def vS (F : Nat) (τ σ : MS) (k q : Nat) : Int32 := (mX2_numberOfStock F τ σ (nI k) (nI q)).getD 0
def vJ (F : Nat) (τ σ : MS) (j q : Nat) : Int32 := (mX2_numberOfJourney F τ σ (nI j) (nI q)).getD 0
def vT (F : Nat) (τ σ : MS) (s q : Nat) : Int32 := (mX2_numberOfStep F τ σ (nI s) (nI q)).getD 0
def ckS (F : Nat) (τ σ : MS) (k : Nat) (v : Int64) : Int64 := fo (ck (vS F τ σ k)) 0 6 v
def ckT (F : Nat) (τ σ : MS) (s : Nat) (v : Int64) : Int64 := fo (ck (vT F τ σ s)) 4 3 v
def ckJ (F : Nat) (τ σ : MS) (j : Nat) (v : Int64) : Int64 := fo (ckT F τ σ) (An τ j) (En τ j - An τ j) (fo (ck (vJ F τ σ j)) 0 7 v)
def ckAll (F : Nat) (τ σ : MS) : Int64 := fo (ckJ F τ σ) 0 (Jn τ) (fo (ckS F τ σ) 0 (Sn τ) (fo (ck (vA F τ σ)) 0 10 0))
theorem i32_nle {a : Nat} {c : Int32} {b : Nat} (hc : c = nI b) (ha : a < 2 ^ 31) (hb : b < 2 ^ 31) (h : a < b) : ¬ c ≤ nI a := by subst hc; exact nle ha hb h
theorem i32_nlt {a : Nat} {c : Int32} {b : Nat} (hc : c = nI b) (ha : a < 2 ^ 31) (hb : b < 2 ^ 31) (h : a ≤ b) : ¬ c < nI a := by subst hc; exact fun q => absurd ((nI_ltI hb ha).mp q) (by omega)
section CS
variable {τ σ : MS} {w : Nat → Int32} {μ0 μ : MS} {F s j k : Nat}
theorem i0 : (0 : Int32) = nI 0 := rfl
variable {τs : WS} {n : Nat} {pa : PA} {β : FS} {υ : MS} {ω : WS} {sid : PA}
end CS

