/-! pure: many numbers in one -/
def LN (v n : Nat) (f : Nat → Nat) : Prop := ∀ p, p < n → v >>> (40 * p) % 2 ^ 40 = f p
theorem LN.mono {v n m : Nat} {f : Nat → Nat} (h : LN v n f) (hm : m ≤ n) : LN v m f := fun p hp => h p (by omega)
theorem LN.congr {v n : Nat} {f g : Nat → Nat} (h : LN v n f) (hg : ∀ p, p < n → f p = g p) : LN v n g := fun p hp => (h p hp).trans (hg p hp)
theorem sh_s (v p : Nat) : v >>> (40 * (p + 1)) = v >>> (40 * p) / 1099511627776 := by
  rw [show 40 * (p + 1) = 40 * p + 40 by omega, Nat.shiftRight_add, Nat.shiftRight_eq_div_pow _ 40]
theorem LN.add {v w n : Nat} {f g : Nat → Nat} (hv : LN v n f) (hw : LN w n g) (h : ∀ p, p < n → f p + g p < 1099511627776) : LN (v + w) n (fun p => f p + g p) := by
  have key : ∀ p, p ≤ n → (v + w) >>> (40 * p) = v >>> (40 * p) + w >>> (40 * p) := by
    intro p
    induction p with
    | zero => intro _; rfl
    | succ p ih =>
      intro hp
      have a := hv p (by omega)
      have b := hw p (by omega)
      have c := h p (by omega)
      rw [sh_s, sh_s, sh_s, ih (by omega)]
      rw [show (2 : Nat) ^ 40 = 1099511627776 from rfl] at a b
      omega
  intro p hp
  have a := hv p hp
  have b := hw p hp
  have c := h p hp
  rw [key p (by omega)]
  rw [show (2 : Nat) ^ 40 = 1099511627776 from rfl] at a b ⊢
  show _ = f p + g p
  omega
theorem LN.mul {v n : Nat} {f : Nat → Nat} (c : Nat) (hv : LN v n f) (h : ∀ p, p < n → c * f p < 1099511627776) : LN (c * v) n (fun p => c * f p) := by
  have key : ∀ p, p ≤ n → (c * v) >>> (40 * p) = c * (v >>> (40 * p)) := by
    intro p
    induction p with
    | zero => intro _; rfl
    | succ p ih =>
      intro hp
      have a := hv p (by omega)
      have b := h p (by omega)
      rw [sh_s, sh_s, ih (by omega)]
      rw [show (2 : Nat) ^ 40 = 1099511627776 from rfl] at a
      generalize v >>> (40 * p) = V at a ⊢
      rw [← a] at b
      have e := Nat.div_add_mod V 1099511627776
      generalize V / 1099511627776 = q at e ⊢
      rw [← e, Nat.mul_add, Nat.mul_left_comm, Nat.mul_add_div (by decide), Nat.div_eq_of_lt b, Nat.add_zero]
  intro p hp
  have a := hv p hp
  have b := h p hp
  rw [key p (by omega)]
  rw [show (2 : Nat) ^ 40 = 1099511627776 from rfl] at a ⊢
  show _ = c * f p
  rw [← a] at b ⊢
  generalize v >>> (40 * p) = V at a b ⊢
  have e := Nat.div_add_mod V 1099511627776
  conv => lhs; rw [← e]
  rw [Nat.mul_add, Nat.mul_left_comm, Nat.mul_add_mod, Nat.mod_eq_of_lt b]
theorem LN.and {v w n : Nat} {f g : Nat → Nat} (hv : LN v n f) (hw : LN w n g) : LN (v &&& w) n (fun p => f p &&& g p) := fun p hp => by
  rw [Nat.shiftRight_and_distrib, Nat.and_mod_two_pow, hv p hp, hw p hp]
theorem LN.xor {v w n : Nat} {f g : Nat → Nat} (hv : LN v n f) (hw : LN w n g) : LN (v ^^^ w) n (fun p => f p ^^^ g p) := fun p hp => by
  rw [Nat.shiftRight_xor_distrib, Nat.xor_mod_two_pow, hv p hp, hw p hp]
theorem LN.shift {v n : Nat} {f : Nat → Nat} (k : Nat) (hv : LN v n f) : LN (v >>> (40 * k)) (n - k) (fun p => f (p + k)) := fun p hp => by
  rw [← Nat.shiftRight_add, ← Nat.mul_add, Nat.add_comm k p]
  exact hv (p + k) (by omega)
/-- one bit of each -/
theorem LN.bit {v w n : Nat} {f : Nat → Nat} (s : Nat) (hs : ∀ V : Nat, V / 2 ^ s % 1099511627776 % 2 = V % 1099511627776 / 2 ^ s % 2) (hv : LN v n f) (hw : LN w n (fun _ => 1)) : LN ((v >>> s) &&& w) n (fun p => f p / 2 ^ s % 2) := fun p hp => by
  have a := hv p hp
  rw [Nat.shiftRight_and_distrib, Nat.and_mod_two_pow, hw p hp, Nat.and_one_is_mod, ← Nat.shiftRight_add, Nat.add_comm s, Nat.shiftRight_add, Nat.shiftRight_eq_div_pow _ s]
  rw [show (2 : Nat) ^ 40 = 1099511627776 from rfl] at a ⊢
  show _ = f p / 2 ^ s % 2
  rw [hs, a]
/-- the low eighteen bits of each -/
theorem LN.low {v w n : Nat} {f : Nat → Nat} (hv : LN v n f) (hw : LN w n (fun _ => 262143)) : LN (v &&& w) n (fun p => f p % 262144) := fun p hp => by
  rw [Nat.shiftRight_and_distrib, Nat.and_mod_two_pow, hv p hp, hw p hp]
  exact Nat.and_two_pow_sub_one_eq_mod (f p) 18
theorem LN.dbl {v w n m : Nat} {f g : Nat → Nat} (hv : LN v n f) (hlt : v < 2 ^ (40 * n)) (hw : LN w m g) : LN (v + 2 ^ (40 * n) * w) (n + m) (fun p => if p < n then f p else g (p - n)) := fun p hp => by
  show _ = if p < n then f p else g (p - n)
  by_cases q : p < n
  · rw [if_pos q, ← hv p q]
    obtain ⟨d, rfl⟩ : ∃ d, n = p + 1 + d := ⟨n - p - 1, by omega⟩
    have e : 2 ^ (40 * (p + 1 + d)) = 2 ^ (40 * p) * (1099511627776 * 2 ^ (40 * d)) := by
      rw [show 40 * (p + 1 + d) = 40 * p + (40 + 40 * d) by omega, Nat.pow_add, Nat.pow_add]
    rw [e, Nat.shiftRight_eq_div_pow, Nat.shiftRight_eq_div_pow, Nat.mul_assoc, Nat.add_mul_div_left _ _ (Nat.two_pow_pos _), Nat.mul_assoc]
    exact Nat.add_mul_mod_self_left _ _ _
  · rw [if_neg q, ← hw (p - n) (by omega)]
    obtain ⟨d, rfl⟩ : ∃ d, p = n + d := ⟨p - n, by omega⟩
    rw [Nat.mul_add, Nat.shiftRight_add, Nat.shiftRight_eq_div_pow _ (40 * n), Nat.add_mul_div_left _ _ (Nat.two_pow_pos _), Nat.div_eq_of_lt hlt, Nat.zero_add, Nat.add_sub_cancel_left]
/-- the residues that the random numbers go through -/
def nx (r : Nat) : Nat := (1103515245 % 262144 * r + 12345) % 262144
def Xr : Nat → Nat
  | 0 => 0
  | p + 1 => nx (Xr p)
def Aj : Nat → Nat
  | 0 => 1103515245 % 262144
  | k + 1 => Aj k * Aj k % 262144
def Cj : Nat → Nat
  | 0 => 12345
  | k + 1 => (Aj k * Cj k + Cj k) % 262144
theorem Xr_lt : ∀ p, Xr p < 262144
  | 0 => by decide
  | p + 1 => Nat.mod_lt _ (by decide)
theorem Aj_lt : ∀ k, Aj k < 262144
  | 0 => by decide
  | k + 1 => Nat.mod_lt _ (by decide)
theorem Cj_lt : ∀ k, Cj k < 262144
  | 0 => by decide
  | k + 1 => Nat.mod_lt _ (by decide)
theorem Xr_j : ∀ k q, Xr (q + 2 ^ k) = (Aj k * Xr q + Cj k) % 262144 := by
  intro k
  induction k with
  | zero => intro q; rfl
  | succ k ih =>
    intro q
    rw [show q + 2 ^ (k + 1) = q + 2 ^ k + 2 ^ k by rw [Nat.pow_succ]; omega, ih, ih]
    show _ = (Aj k * Aj k % 262144 * Xr q + (Aj k * Cj k + Cj k) % 262144) % 262144
    generalize Aj k = A
    generalize Cj k = C
    generalize Xr q = x
    rw [Nat.add_mod (A * ((A * x + C) % 262144)) C, Nat.mul_mod A, Nat.mod_mod, ← Nat.mul_mod, ← Nat.add_mod]
    rw [Nat.add_mod (A * A % 262144 * x), Nat.mod_mod, Nat.mul_mod (A * A % 262144), Nat.mod_mod, ← Nat.mul_mod, ← Nat.add_mod]
    congr 1
    rw [Nat.mul_add, Nat.mul_assoc, Nat.add_assoc]
/-- the first residues, and as many ones, in one number -/
def oneN : Nat → Nat
  | 0 => 1
  | k + 1 => oneN k + 2 ^ (40 * 2 ^ k) * oneN k
def resN : Nat → Nat
  | 0 => 0
  | k + 1 => resN k + 2 ^ (40 * 2 ^ k) * ((Aj k * resN k + Cj k * oneN k) &&& (262143 * oneN k))
theorem oneN_ok : ∀ k, LN (oneN k) (2 ^ k) (fun _ => 1) ∧ 262143 * oneN k < 2 ^ (40 * 2 ^ k) := by
  intro k
  induction k with
  | zero =>
    refine ⟨fun p hp => ?_, by decide⟩
    obtain rfl : p = 0 := by omega
    rfl
  | succ k ih =>
    obtain ⟨h1, h2⟩ := ih
    have hlt : oneN k < 2 ^ (40 * 2 ^ k) := by omega
    refine ⟨?_, ?_⟩
    · have := h1.dbl hlt h1
      rw [show 2 ^ k + 2 ^ k = 2 ^ (k + 1) by rw [Nat.pow_succ]; omega] at this
      exact this.congr fun p _ => by split <;> rfl
    · show 262143 * (oneN k + 2 ^ (40 * 2 ^ k) * oneN k) < _
      have e : 2 ^ (40 * 2 ^ (k + 1)) = 2 ^ (40 * 2 ^ k) * 2 ^ (40 * 2 ^ k) := by
        rw [← Nat.pow_add, Nat.pow_succ]
        congr 1
        omega
      rw [e]
      generalize hm : 2 ^ (40 * 2 ^ k) = m at *
      have h3 : 262143 * oneN k + 1 ≤ m := h2
      have h4 := Nat.mul_le_mul_left m h3
      rw [Nat.mul_add, Nat.mul_one] at h4
      rw [Nat.mul_add, Nat.mul_left_comm 262143 m]
      generalize m * (262143 * oneN k) = z at *
      omega
theorem resN_ok : ∀ k, LN (resN k) (2 ^ k) Xr ∧ resN k < 2 ^ (40 * 2 ^ k) := by
  intro k
  induction k with
  | zero =>
    refine ⟨fun p hp => ?_, by decide⟩
    obtain rfl : p = 0 := by omega
    rfl
  | succ k ih =>
    obtain ⟨h1, h2⟩ := ih
    obtain ⟨o1, o2⟩ := oneN_ok k
    have hA := Aj_lt k
    have hC := Cj_lt k
    have ha : LN (Aj k * resN k) (2 ^ k) (fun p => Aj k * Xr p) := h1.mul _ fun p _ => by
      have := Nat.mul_le_mul (Nat.le_of_lt hA) (Nat.le_of_lt (Xr_lt p))
      omega
    have hc : LN (Cj k * oneN k) (2 ^ k) (fun _ => Cj k * 1) := o1.mul _ fun p _ => by omega
    have hs : LN (Aj k * resN k + Cj k * oneN k) (2 ^ k) (fun p => Aj k * Xr p + Cj k * 1) := ha.add hc fun p _ => by
      have := Nat.mul_le_mul (Nat.le_of_lt hA) (Nat.le_of_lt (Xr_lt p))
      omega
    have hm : LN (262143 * oneN k) (2 ^ k) (fun _ => 262143) := (o1.mul 262143 fun p _ => by decide).congr fun _ _ => rfl
    have hl := hs.low hm
    have hw : (Aj k * resN k + Cj k * oneN k) &&& (262143 * oneN k) ≤ 262143 * oneN k := Nat.and_le_right
    generalize hg : (Aj k * resN k + Cj k * oneN k) &&& (262143 * oneN k) = w at *
    have e0 : resN (k + 1) = resN k + 2 ^ (40 * 2 ^ k) * w := by rw [← hg]; rfl
    rw [e0]
    refine ⟨?_, ?_⟩
    · have := h1.dbl h2 hl
      rw [show 2 ^ k + 2 ^ k = 2 ^ (k + 1) by rw [Nat.pow_succ]; omega] at this
      refine this.congr fun p hp => ?_
      show (if p < 2 ^ k then Xr p else (Aj k * Xr (p - 2 ^ k) + Cj k * 1) % 262144) = Xr p
      split
      · rfl
      · rw [Nat.mul_one, ← Xr_j, Nat.sub_add_cancel (by omega)]
    · have e : 2 ^ (40 * 2 ^ (k + 1)) = 2 ^ (40 * 2 ^ k) * 2 ^ (40 * 2 ^ k) := by
        rw [← Nat.pow_add, Nat.pow_succ]
        congr 1
        omega
      rw [e]
      generalize hm : 2 ^ (40 * 2 ^ k) = m at *
      have h3 : w + 1 ≤ m := by omega
      have h4 := Nat.mul_le_mul_left m h3
      rw [Nat.mul_add] at h4
      omega
/-- every residue is gone through -/
theorem Aj_m : ∀ k : Fin 18, Aj k.val % 2 ^ (k.val + 1) = 1 ∧ Cj k.val % 2 ^ (k.val + 1) = 2 ^ k.val := by decide +kernel
theorem Xr_all : ∀ k, k ≤ 18 → ∀ r, ∃ p, p < 2 ^ k ∧ Xr p % 2 ^ k = r % 2 ^ k := by
  intro k
  induction k with
  | zero => exact fun _ r => ⟨0, by decide, by rw [Nat.pow_zero, Nat.mod_one, Nat.mod_one]⟩
  | succ k ih =>
    intro hk r
    obtain ⟨p, h1, h2⟩ := ih (by omega) r
    obtain ⟨a1, a2⟩ := Aj_m ⟨k, by omega⟩
    have a1 : Aj k % 2 ^ (k + 1) = 1 := a1
    have a2 : Cj k % 2 ^ (k + 1) = 2 ^ k := a2
    have hd : 2 ^ (k + 1) ∣ 262144 := Nat.pow_dvd_pow 2 (n := 18) (by omega)
    have hstep : Xr (p + 2 ^ k) % 2 ^ (k + 1) = (Xr p % 2 ^ (k + 1) + 2 ^ k) % 2 ^ (k + 1) := by
      rw [Xr_j, Nat.mod_mod_of_dvd _ hd, Nat.add_mod, Nat.mul_mod, a1, a2, Nat.one_mul, Nat.mod_mod]
    have e2 : 2 ^ (k + 1) = 2 * 2 ^ k := by rw [Nat.pow_succ, Nat.mul_comm]
    rw [e2] at hstep ⊢
    have hpos := Nat.two_pow_pos k
    generalize 2 ^ k = m at *
    have q1 := Nat.mod_mul (x := Xr p) (a := m) (b := 2)
    have q2 := Nat.mod_mul (x := r) (a := m) (b := 2)
    rw [Nat.mul_comm m 2] at q1 q2
    rw [h2] at q1
    by_cases z : Xr p / m % 2 = r / m % 2
    · exact ⟨p, by omega, by rw [q1, q2, z]⟩
    · refine ⟨p + m, by omega, ?_⟩
      rw [hstep, q1, q2]
      have hr : r % m < m := Nat.mod_lt _ hpos
      rcases (show (Xr p / m % 2 = 0 ∧ r / m % 2 = 1) ∨ (Xr p / m % 2 = 1 ∧ r / m % 2 = 0) by omega) with ⟨z1, z2⟩ | ⟨z1, z2⟩
      · rw [z1, z2, Nat.mul_zero, Nat.add_zero, Nat.mul_one]
        exact Nat.mod_eq_of_lt (by omega)
      · rw [z1, z2, Nat.mul_one, Nat.mul_zero, Nat.add_zero, Nat.add_assoc, show m + m = 2 * m by omega, Nat.add_mod_right]
        exact Nat.mod_eq_of_lt (by omega)
