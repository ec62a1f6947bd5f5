/-! pure: reads and writes of both sides -/
theorem rdn {f : FS} {n i : Nat} {x : Int32} (hx : x = nI i) (h : i < n) (hn : n < 2 ^ 31) : rd f n x = some (f i) := by subst hx; exact rd_at h hn
theorem wrn {μ : MS} {c n i : Nat} {x v : Int32} (hx : x = nI i) (h : i < n) (hn : n < 2 ^ 31) : wra μ c n x v = some (u2 μ c i v) := by subst hx; exact wra_at h hn
theorem nJ0 (j : Nat) : nI (19 + 9 * j) + (0 : Int32) = nI (19 + 9 * j) := by
  rw [show (0 : Int32) = nI 0 from rfl, nI_a, show 19 + 9 * j + 0 = 19 + 9 * j by omega]
theorem nS0 (s : Nat) : nI (91 + 9 * s) + (0 : Int32) = nI (91 + 9 * s) := by
  rw [show (0 : Int32) = nI 0 from rfl, nI_a, show 91 + 9 * s + 0 = 91 + 9 * s by omega]
theorem rS0 {μ : FS} {s : Nat} (hs : s < 40) : rd μ 451 (nI (91 + 9 * s) + (0 : Int32)) = some (μ (91 + 9 * s)) := rdn (nS0 s) (by omega) (by decide)
theorem wS0 {μ : MS} {s : Nat} {v : Int32} (hs : s < 40) : wra μ 8 451 (nI (91 + 9 * s) + (0 : Int32)) v = some (u2 μ 8 (91 + 9 * s) v) := wrn (nS0 s) (by omega) (by decide)
theorem wJ0 {μ : MS} {j : Nat} {v : Int32} (hj : j < 8) : wra μ 8 451 (nI (19 + 9 * j) + (0 : Int32)) v = some (u2 μ 8 (19 + 9 * j) v) := wrn (nJ0 j) (by omega) (by decide)
theorem rG0 {μ : FS} : rd μ 451 (0 : Int32) = some (μ 0) := rdn (x := (0 : Int32)) (i := 0) rfl (by decide) (by decide)
theorem wG0 {μ : MS} {v : Int32} : wra μ 8 451 (0 : Int32) v = some (u2 μ 8 0 v) := wrn (x := (0 : Int32)) (i := 0) rfl (by decide) (by decide)
theorem nJ1 (j : Nat) : nI (19 + 9 * j) + (1 : Int32) = nI (20 + 9 * j) := by
  rw [show (1 : Int32) = nI 1 from rfl, nI_a, show 19 + 9 * j + 1 = 20 + 9 * j by omega]
theorem nS1 (s : Nat) : nI (91 + 9 * s) + (1 : Int32) = nI (92 + 9 * s) := by
  rw [show (1 : Int32) = nI 1 from rfl, nI_a, show 91 + 9 * s + 1 = 92 + 9 * s by omega]
theorem rS1 {μ : FS} {s : Nat} (hs : s < 40) : rd μ 451 (nI (91 + 9 * s) + (1 : Int32)) = some (μ (92 + 9 * s)) := rdn (nS1 s) (by omega) (by decide)
theorem wS1 {μ : MS} {s : Nat} {v : Int32} (hs : s < 40) : wra μ 8 451 (nI (91 + 9 * s) + (1 : Int32)) v = some (u2 μ 8 (92 + 9 * s) v) := wrn (nS1 s) (by omega) (by decide)
theorem wJ1 {μ : MS} {j : Nat} {v : Int32} (hj : j < 8) : wra μ 8 451 (nI (19 + 9 * j) + (1 : Int32)) v = some (u2 μ 8 (20 + 9 * j) v) := wrn (nJ1 j) (by omega) (by decide)
theorem rG1 {μ : FS} : rd μ 451 (1 : Int32) = some (μ 1) := rdn (x := (1 : Int32)) (i := 1) rfl (by decide) (by decide)
theorem wG1 {μ : MS} {v : Int32} : wra μ 8 451 (1 : Int32) v = some (u2 μ 8 1 v) := wrn (x := (1 : Int32)) (i := 1) rfl (by decide) (by decide)
theorem nJ2 (j : Nat) : nI (19 + 9 * j) + (2 : Int32) = nI (21 + 9 * j) := by
  rw [show (2 : Int32) = nI 2 from rfl, nI_a, show 19 + 9 * j + 2 = 21 + 9 * j by omega]
theorem nS2 (s : Nat) : nI (91 + 9 * s) + (2 : Int32) = nI (93 + 9 * s) := by
  rw [show (2 : Int32) = nI 2 from rfl, nI_a, show 91 + 9 * s + 2 = 93 + 9 * s by omega]
theorem rS2 {μ : FS} {s : Nat} (hs : s < 40) : rd μ 451 (nI (91 + 9 * s) + (2 : Int32)) = some (μ (93 + 9 * s)) := rdn (nS2 s) (by omega) (by decide)
theorem wS2 {μ : MS} {s : Nat} {v : Int32} (hs : s < 40) : wra μ 8 451 (nI (91 + 9 * s) + (2 : Int32)) v = some (u2 μ 8 (93 + 9 * s) v) := wrn (nS2 s) (by omega) (by decide)
theorem wJ2 {μ : MS} {j : Nat} {v : Int32} (hj : j < 8) : wra μ 8 451 (nI (19 + 9 * j) + (2 : Int32)) v = some (u2 μ 8 (21 + 9 * j) v) := wrn (nJ2 j) (by omega) (by decide)
theorem rG2 {μ : FS} : rd μ 451 (2 : Int32) = some (μ 2) := rdn (x := (2 : Int32)) (i := 2) rfl (by decide) (by decide)
theorem wG2 {μ : MS} {v : Int32} : wra μ 8 451 (2 : Int32) v = some (u2 μ 8 2 v) := wrn (x := (2 : Int32)) (i := 2) rfl (by decide) (by decide)
theorem nJ3 (j : Nat) : nI (19 + 9 * j) + (3 : Int32) = nI (22 + 9 * j) := by
  rw [show (3 : Int32) = nI 3 from rfl, nI_a, show 19 + 9 * j + 3 = 22 + 9 * j by omega]
theorem nS3 (s : Nat) : nI (91 + 9 * s) + (3 : Int32) = nI (94 + 9 * s) := by
  rw [show (3 : Int32) = nI 3 from rfl, nI_a, show 91 + 9 * s + 3 = 94 + 9 * s by omega]
theorem rS3 {μ : FS} {s : Nat} (hs : s < 40) : rd μ 451 (nI (91 + 9 * s) + (3 : Int32)) = some (μ (94 + 9 * s)) := rdn (nS3 s) (by omega) (by decide)
theorem wS3 {μ : MS} {s : Nat} {v : Int32} (hs : s < 40) : wra μ 8 451 (nI (91 + 9 * s) + (3 : Int32)) v = some (u2 μ 8 (94 + 9 * s) v) := wrn (nS3 s) (by omega) (by decide)
theorem wJ3 {μ : MS} {j : Nat} {v : Int32} (hj : j < 8) : wra μ 8 451 (nI (19 + 9 * j) + (3 : Int32)) v = some (u2 μ 8 (22 + 9 * j) v) := wrn (nJ3 j) (by omega) (by decide)
theorem rG3 {μ : FS} : rd μ 451 (3 : Int32) = some (μ 3) := rdn (x := (3 : Int32)) (i := 3) rfl (by decide) (by decide)
theorem wG3 {μ : MS} {v : Int32} : wra μ 8 451 (3 : Int32) v = some (u2 μ 8 3 v) := wrn (x := (3 : Int32)) (i := 3) rfl (by decide) (by decide)
theorem nJ4 (j : Nat) : nI (19 + 9 * j) + (4 : Int32) = nI (23 + 9 * j) := by
  rw [show (4 : Int32) = nI 4 from rfl, nI_a, show 19 + 9 * j + 4 = 23 + 9 * j by omega]
theorem nS4 (s : Nat) : nI (91 + 9 * s) + (4 : Int32) = nI (95 + 9 * s) := by
  rw [show (4 : Int32) = nI 4 from rfl, nI_a, show 91 + 9 * s + 4 = 95 + 9 * s by omega]
theorem rS4 {μ : FS} {s : Nat} (hs : s < 40) : rd μ 451 (nI (91 + 9 * s) + (4 : Int32)) = some (μ (95 + 9 * s)) := rdn (nS4 s) (by omega) (by decide)
theorem wS4 {μ : MS} {s : Nat} {v : Int32} (hs : s < 40) : wra μ 8 451 (nI (91 + 9 * s) + (4 : Int32)) v = some (u2 μ 8 (95 + 9 * s) v) := wrn (nS4 s) (by omega) (by decide)
theorem wJ4 {μ : MS} {j : Nat} {v : Int32} (hj : j < 8) : wra μ 8 451 (nI (19 + 9 * j) + (4 : Int32)) v = some (u2 μ 8 (23 + 9 * j) v) := wrn (nJ4 j) (by omega) (by decide)
theorem rG4 {μ : FS} : rd μ 451 (4 : Int32) = some (μ 4) := rdn (x := (4 : Int32)) (i := 4) rfl (by decide) (by decide)
theorem wG4 {μ : MS} {v : Int32} : wra μ 8 451 (4 : Int32) v = some (u2 μ 8 4 v) := wrn (x := (4 : Int32)) (i := 4) rfl (by decide) (by decide)
theorem nJ5 (j : Nat) : nI (19 + 9 * j) + (5 : Int32) = nI (24 + 9 * j) := by
  rw [show (5 : Int32) = nI 5 from rfl, nI_a, show 19 + 9 * j + 5 = 24 + 9 * j by omega]
theorem nS5 (s : Nat) : nI (91 + 9 * s) + (5 : Int32) = nI (96 + 9 * s) := by
  rw [show (5 : Int32) = nI 5 from rfl, nI_a, show 91 + 9 * s + 5 = 96 + 9 * s by omega]
theorem rS5 {μ : FS} {s : Nat} (hs : s < 40) : rd μ 451 (nI (91 + 9 * s) + (5 : Int32)) = some (μ (96 + 9 * s)) := rdn (nS5 s) (by omega) (by decide)
theorem wS5 {μ : MS} {s : Nat} {v : Int32} (hs : s < 40) : wra μ 8 451 (nI (91 + 9 * s) + (5 : Int32)) v = some (u2 μ 8 (96 + 9 * s) v) := wrn (nS5 s) (by omega) (by decide)
theorem wJ5 {μ : MS} {j : Nat} {v : Int32} (hj : j < 8) : wra μ 8 451 (nI (19 + 9 * j) + (5 : Int32)) v = some (u2 μ 8 (24 + 9 * j) v) := wrn (nJ5 j) (by omega) (by decide)
theorem rG5 {μ : FS} : rd μ 451 (5 : Int32) = some (μ 5) := rdn (x := (5 : Int32)) (i := 5) rfl (by decide) (by decide)
theorem wG5 {μ : MS} {v : Int32} : wra μ 8 451 (5 : Int32) v = some (u2 μ 8 5 v) := wrn (x := (5 : Int32)) (i := 5) rfl (by decide) (by decide)
theorem nJ6 (j : Nat) : nI (19 + 9 * j) + (6 : Int32) = nI (25 + 9 * j) := by
  rw [show (6 : Int32) = nI 6 from rfl, nI_a, show 19 + 9 * j + 6 = 25 + 9 * j by omega]
theorem nS6 (s : Nat) : nI (91 + 9 * s) + (6 : Int32) = nI (97 + 9 * s) := by
  rw [show (6 : Int32) = nI 6 from rfl, nI_a, show 91 + 9 * s + 6 = 97 + 9 * s by omega]
theorem rS6 {μ : FS} {s : Nat} (hs : s < 40) : rd μ 451 (nI (91 + 9 * s) + (6 : Int32)) = some (μ (97 + 9 * s)) := rdn (nS6 s) (by omega) (by decide)
theorem wS6 {μ : MS} {s : Nat} {v : Int32} (hs : s < 40) : wra μ 8 451 (nI (91 + 9 * s) + (6 : Int32)) v = some (u2 μ 8 (97 + 9 * s) v) := wrn (nS6 s) (by omega) (by decide)
theorem wJ6 {μ : MS} {j : Nat} {v : Int32} (hj : j < 8) : wra μ 8 451 (nI (19 + 9 * j) + (6 : Int32)) v = some (u2 μ 8 (25 + 9 * j) v) := wrn (nJ6 j) (by omega) (by decide)
theorem rG6 {μ : FS} : rd μ 451 (6 : Int32) = some (μ 6) := rdn (x := (6 : Int32)) (i := 6) rfl (by decide) (by decide)
theorem wG6 {μ : MS} {v : Int32} : wra μ 8 451 (6 : Int32) v = some (u2 μ 8 6 v) := wrn (x := (6 : Int32)) (i := 6) rfl (by decide) (by decide)
theorem nJ7 (j : Nat) : nI (19 + 9 * j) + (7 : Int32) = nI (26 + 9 * j) := by
  rw [show (7 : Int32) = nI 7 from rfl, nI_a, show 19 + 9 * j + 7 = 26 + 9 * j by omega]
theorem nS7 (s : Nat) : nI (91 + 9 * s) + (7 : Int32) = nI (98 + 9 * s) := by
  rw [show (7 : Int32) = nI 7 from rfl, nI_a, show 91 + 9 * s + 7 = 98 + 9 * s by omega]
theorem rS7 {μ : FS} {s : Nat} (hs : s < 40) : rd μ 451 (nI (91 + 9 * s) + (7 : Int32)) = some (μ (98 + 9 * s)) := rdn (nS7 s) (by omega) (by decide)
theorem wS7 {μ : MS} {s : Nat} {v : Int32} (hs : s < 40) : wra μ 8 451 (nI (91 + 9 * s) + (7 : Int32)) v = some (u2 μ 8 (98 + 9 * s) v) := wrn (nS7 s) (by omega) (by decide)
theorem wJ7 {μ : MS} {j : Nat} {v : Int32} (hj : j < 8) : wra μ 8 451 (nI (19 + 9 * j) + (7 : Int32)) v = some (u2 μ 8 (26 + 9 * j) v) := wrn (nJ7 j) (by omega) (by decide)
theorem nJ8 (j : Nat) : nI (19 + 9 * j) + (8 : Int32) = nI (27 + 9 * j) := by
  rw [show (8 : Int32) = nI 8 from rfl, nI_a, show 19 + 9 * j + 8 = 27 + 9 * j by omega]
theorem nS8 (s : Nat) : nI (91 + 9 * s) + (8 : Int32) = nI (99 + 9 * s) := by
  rw [show (8 : Int32) = nI 8 from rfl, nI_a, show 91 + 9 * s + 8 = 99 + 9 * s by omega]
theorem rS8 {μ : FS} {s : Nat} (hs : s < 40) : rd μ 451 (nI (91 + 9 * s) + (8 : Int32)) = some (μ (99 + 9 * s)) := rdn (nS8 s) (by omega) (by decide)
theorem wS8 {μ : MS} {s : Nat} {v : Int32} (hs : s < 40) : wra μ 8 451 (nI (91 + 9 * s) + (8 : Int32)) v = some (u2 μ 8 (99 + 9 * s) v) := wrn (nS8 s) (by omega) (by decide)
theorem wJ8 {μ : MS} {j : Nat} {v : Int32} (hj : j < 8) : wra μ 8 451 (nI (19 + 9 * j) + (8 : Int32)) v = some (u2 μ 8 (27 + 9 * j) v) := wrn (nJ8 j) (by omega) (by decide)
theorem rJ0 {μ : FS} {j : Nat} (hj : j < 8) : rd μ 451 (nI (19 + 9 * j) + (0 : Int32)) = some (μ (19 + 9 * j)) := rdn (nJ0 j) (by omega) (by decide)
theorem rJ1 {μ : FS} {j : Nat} (hj : j < 8) : rd μ 451 (nI (19 + 9 * j) + (1 : Int32)) = some (μ (20 + 9 * j)) := rdn (nJ1 j) (by omega) (by decide)
theorem rJ2 {μ : FS} {j : Nat} (hj : j < 8) : rd μ 451 (nI (19 + 9 * j) + (2 : Int32)) = some (μ (21 + 9 * j)) := rdn (nJ2 j) (by omega) (by decide)
theorem rJ3 {μ : FS} {j : Nat} (hj : j < 8) : rd μ 451 (nI (19 + 9 * j) + (3 : Int32)) = some (μ (22 + 9 * j)) := rdn (nJ3 j) (by omega) (by decide)
theorem rJ4 {μ : FS} {j : Nat} (hj : j < 8) : rd μ 451 (nI (19 + 9 * j) + (4 : Int32)) = some (μ (23 + 9 * j)) := rdn (nJ4 j) (by omega) (by decide)
theorem rJ5 {μ : FS} {j : Nat} (hj : j < 8) : rd μ 451 (nI (19 + 9 * j) + (5 : Int32)) = some (μ (24 + 9 * j)) := rdn (nJ5 j) (by omega) (by decide)
theorem rJ6 {μ : FS} {j : Nat} (hj : j < 8) : rd μ 451 (nI (19 + 9 * j) + (6 : Int32)) = some (μ (25 + 9 * j)) := rdn (nJ6 j) (by omega) (by decide)
theorem rJ7 {μ : FS} {j : Nat} (hj : j < 8) : rd μ 451 (nI (19 + 9 * j) + (7 : Int32)) = some (μ (26 + 9 * j)) := rdn (nJ7 j) (by omega) (by decide)
theorem rJ8 {μ : FS} {j : Nat} (hj : j < 8) : rd μ 451 (nI (19 + 9 * j) + (8 : Int32)) = some (μ (27 + 9 * j)) := rdn (nJ8 j) (by omega) (by decide)
theorem kA0 (k : Nat) : ((7 : Int32) + ((2 : Int32) * nI k)) + (0 : Int32) = nI (7 + 2 * k) := by
  rw [show (7 : Int32) = nI 7 from rfl, show (2 : Int32) = nI 2 from rfl, show (0 : Int32) = nI 0 from rfl, nI_m, nI_a, nI_a]; rfl
theorem kA1 (k : Nat) : ((7 : Int32) + ((2 : Int32) * nI k)) + (1 : Int32) = nI (8 + 2 * k) := by
  rw [show (7 : Int32) = nI 7 from rfl, show (2 : Int32) = nI 2 from rfl, show (1 : Int32) = nI 1 from rfl, nI_m, nI_a, nI_a, show 7 + 2 * k + 1 = 8 + 2 * k by omega]
theorem rK0 {μ : FS} {k : Nat} (hk : k < 6) : rd μ 451 (((7 : Int32) + ((2 : Int32) * nI k)) + (0 : Int32)) = some (μ (7 + 2 * k)) := rdn (kA0 k) (by omega) (by decide)
theorem rK1 {μ : FS} {k : Nat} (hk : k < 6) : rd μ 451 (((7 : Int32) + ((2 : Int32) * nI k)) + (1 : Int32)) = some (μ (8 + 2 * k)) := rdn (kA1 k) (by omega) (by decide)
theorem wK0 {μ : MS} {k : Nat} {v : Int32} (hk : k < 6) : wra μ 8 451 (((7 : Int32) + ((2 : Int32) * nI k)) + (0 : Int32)) v = some (u2 μ 8 (7 + 2 * k) v) := wrn (kA0 k) (by omega) (by decide)
section RE
variable {τ σ : MS} {w : Nat → Int32} {μ0 μ : MS} {s j k : Nat}
theorem SI.j8 (h : SI τ) (hj : j < Jn τ) : j < 8 := by have := h.J.2; omega
theorem SI.s40 (h : SI τ) (hs : s < Nn τ) : s < 40 := by have := h.N.2; omega
theorem SI.k6 (h : SI τ) (hk : k < Sn τ) : k < 6 := by have := h.S.2; omega
theorem rA (hI : SI τ) (hj : j < Jn τ) : rd (τ 8) 8 (nI j) = some (nI (An τ j)) := by rw [rd_at (hI.j8 hj) (by decide), (hI.A hj).1]
theorem rE (hI : SI τ) (hj : j < Jn τ) : rd (τ 9) 8 (nI j) = some (nI (En τ j)) := by rw [rd_at (hI.j8 hj) (by decide), (hI.A hj).2.1]
theorem r8 {f : FS} (hI : SI τ) (hj : j < Jn τ) : rd f 8 (nI j) = some (f j) := rd_at (hI.j8 hj) (by decide)
theorem r40 {f : FS} (hI : SI τ) (hs : s < Nn τ) : rd f 40 (nI s) = some (f s) := rd_at (hI.s40 hs) (by decide)
theorem r6 {f : FS} (hI : SI τ) (hk : k < Sn τ) : rd f 6 (nI k) = some (f k) := rd_at (hI.k6 hk) (by decide)
theorem w8 {c : Nat} {v : Int32} (hI : SI τ) (hj : j < Jn τ) : wra σ c 8 (nI j) v = some (u2 σ c j v) := wra_at (hI.j8 hj) (by decide)
theorem w40 {c : Nat} {v : Int32} (hI : SI τ) (hs : s < Nn τ) : wra σ c 40 (nI s) v = some (u2 σ c s v) := wra_at (hI.s40 hs) (by decide)
theorem w6 {c : Nat} {v : Int32} (hI : SI τ) (hk : k < Sn τ) : wra σ c 6 (nI k) v = some (u2 σ c k v) := wra_at (hI.k6 hk) (by decide)
theorem nle {a b : Nat} (ha : a < 2 ^ 31) (hb : b < 2 ^ 31) (h : a < b) : ¬ nI b ≤ nI a := fun q => absurd ((nI_leI hb ha).mp q) (by omega)
end RE

