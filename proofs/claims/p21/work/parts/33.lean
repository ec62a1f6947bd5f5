/-! pure: the reference's tick does to its row what the class's does to its world -/
section MT
variable {τ σ : MS} {w : Nat → Int32} {μ0 μ : MS} {F s j k : Nat} {p v : Int32} {B : Int}
end MT

