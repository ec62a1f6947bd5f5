/-! pure: no text is too long, whatever the residue -/
theorem chk_0 : chk 0 = 0 := by decide +kernel
theorem chk_1 : chk 1 = 0 := by decide +kernel
theorem chk_2 : chk 2 = 0 := by decide +kernel
theorem chk_3 : chk 3 = 0 := by decide +kernel
theorem chk_4 : chk 4 = 0 := by decide +kernel
theorem chk_5 : chk 5 = 0 := by decide +kernel
theorem chk_6 : chk 6 = 0 := by decide +kernel
theorem chk_7 : chk 7 = 0 := by decide +kernel
theorem chk_8 : chk 8 = 0 := by decide +kernel
theorem chk_9 : chk 9 = 0 := by decide +kernel
theorem chk_10 : chk 10 = 0 := by decide +kernel
theorem chk_11 : chk 11 = 0 := by decide +kernel
theorem chk_12 : chk 12 = 0 := by decide +kernel
theorem chk_13 : chk 13 = 0 := by decide +kernel
theorem chk_14 : chk 14 = 0 := by decide +kernel
theorem chk_15 : chk 15 = 0 := by decide +kernel
theorem chk_all : ∀ c, c < 16 → chk c = 0
  | 0, _ => chk_0
  | 1, _ => chk_1
  | 2, _ => chk_2
  | 3, _ => chk_3
  | 4, _ => chk_4
  | 5, _ => chk_5
  | 6, _ => chk_6
  | 7, _ => chk_7
  | 8, _ => chk_8
  | 9, _ => chk_9
  | 10, _ => chk_10
  | 11, _ => chk_11
  | 12, _ => chk_12
  | 13, _ => chk_13
  | 14, _ => chk_14
  | 15, _ => chk_15
  | n + 16, h => absurd h (by omega)
theorem ff_all {r : Nat} (hr : r < 262144) : ff r ≤ 700 := by
  obtain ⟨p, h1, h2⟩ := Xr_all 18 (Nat.le_refl _) r
  rw [show (2 : Nat) ^ 18 = 262144 from rfl] at h1 h2
  rw [Nat.mod_eq_of_lt (Xr_lt p), Nat.mod_eq_of_lt hr] at h2
  have hc : p / 16384 < 16 := by omega
  have := chk_ok (chk_all _ hc) (p % 16384) (Nat.mod_lt _ (by decide))
  rw [Nat.mul_comm, Nat.mod_add_div, h2] at this
  exact this
