/-! pure: how long a text can be -/
def itn : Nat → Nat → Nat
  | 0, r => r
  | k + 1, r => itn k (nx r)
theorem Xr_it : ∀ k p, Xr (p + k) = itn k (Xr p)
  | 0, _ => rfl
  | k + 1, p => by
    rw [show p + (k + 1) = p + 1 + k by omega, Xr_it k (p + 1)]
    rfl
theorem itn_a : ∀ a b r, itn b (itn a r) = itn (a + b) r
  | 0, b, r => by rw [Nat.zero_add]; rfl
  | a + 1, b, r => by
    rw [show a + 1 + b = (a + b) + 1 by omega]
    exact itn_a a b (nx r)
def hb (r : Nat) : Nat := nx r / 131072 % 2
def lb (r : Nat) : Nat := nx r / 65536 % 2
def z0f (r : Nat) : Nat := (1 - hb r) * (1 - lb r)
def lsf (r : Nat) : Nat := 5 + z0f (itn 3 r) + 5 * lb (itn 6 r) + 8 * (lb r * (1 - z0f (itn 1 r)))
def t3f (N : Nat → Nat) (r : Nat) : Nat := lsf r + N (itn 8 r)
def t2f (N : Nat → Nat) (r : Nat) : Nat := lsf r + max (N (itn 8 r)) (5 + t3f N (itn 8 r))
def t1f (N : Nat → Nat) (r : Nat) : Nat := lsf r + max (N (itn 8 r)) (5 + t2f N (itn 8 r))
def stf (N : Nat → Nat) (r : Nat) : Nat := if lb r = 1 then 1 + t1f N (itn 2 r) else 1 + lsf (itn 2 r) + N (itn 10 r)
def gf (E : Nat → Nat) : Nat → Nat → Nat
  | 0 => stf E
  | s + 1 => stf (fun r => max (E r) (4 + gf E s r))
def bf : Nat → Nat → Nat
  | 0 => fun _ => 18
  | m + 1 => fun r => max 18 (9 + z0f r + gf (fun r => 1 + bf m r) 2 (itn 3 r))
def ff (r : Nat) : Nat := (if (1 - hb r) * lb r = 1 then 18 + bf 4 (itn 6 r) else 0) + (if hb r * (1 - lb r) = 1 then 30 + bf 4 (itn 10 r) else 0) + (if hb r * lb r = 1 then 42 + bf 4 (itn 14 r) else 0)
theorem hb_le (r : Nat) : hb r ≤ 1 := Nat.le_of_lt_succ (Nat.mod_lt _ (by decide))
theorem lb_le (r : Nat) : lb r ≤ 1 := Nat.le_of_lt_succ (Nat.mod_lt _ (by decide))
theorem mul01 {x y : Nat} (hx : x ≤ 1) (hy : y ≤ 1) : x * y ≤ 1 := Nat.mul_le_mul hx hy
theorem z0_le (r : Nat) : z0f r ≤ 1 := mul01 (by omega) (by omega)
theorem lsf_le (r : Nat) : lsf r ≤ 19 := by
  unfold lsf
  have a := z0_le (itn 3 r)
  have b := lb_le (itn 6 r)
  have c := mul01 (lb_le r) (show 1 - z0f (itn 1 r) ≤ 1 by omega)
  omega
theorem stf_le {N : Nat → Nat} {M : Nat} (h : ∀ r, N r ≤ M) (r : Nat) : t3f N r ≤ 19 + M ∧ t2f N r ≤ 43 + M ∧ t1f N r ≤ 67 + M ∧ stf N r ≤ 68 + M := by
  have t3 : ∀ r, t3f N r ≤ 19 + M := fun r => by
    unfold t3f
    have := lsf_le r
    have := h (itn 8 r)
    omega
  have t2 : ∀ r, t2f N r ≤ 43 + M := fun r => by
    unfold t2f
    have := lsf_le r
    have := h (itn 8 r)
    have := t3 (itn 8 r)
    omega
  have t1 : ∀ r, t1f N r ≤ 67 + M := fun r => by
    unfold t1f
    have := lsf_le r
    have := h (itn 8 r)
    have := t2 (itn 8 r)
    omega
  refine ⟨t3 r, t2 r, t1 r, ?_⟩
  unfold stf
  have := lsf_le (itn 2 r)
  have := h (itn 10 r)
  have := t1 (itn 2 r)
  split <;> omega
theorem gf_le {E : Nat → Nat} {M : Nat} (h : ∀ r, E r ≤ M) (r : Nat) : gf E 0 r ≤ 68 + M ∧ gf E 1 r ≤ 140 + M ∧ gf E 2 r ≤ 212 + M := by
  have g0 : ∀ r, gf E 0 r ≤ 68 + M := fun r => (stf_le h r).2.2.2
  have g1 : ∀ r, gf E 1 r ≤ 68 + (72 + M) := fun r => (stf_le (N := fun r => max (E r) (4 + gf E 0 r)) (fun r => by
    have := h r
    have := g0 r
    show max _ _ ≤ _
    omega) r).2.2.2
  have g2 : ∀ r, gf E 2 r ≤ 68 + (144 + M) := fun r => (stf_le (N := fun r => max (E r) (4 + gf E 1 r)) (fun r => by
    have := h r
    have := g1 r
    show max _ _ ≤ _
    omega) r).2.2.2
  have a := g0 r
  have b := g1 r
  have c := g2 r
  omega
theorem bf_le : ∀ m r, bf m r ≤ 223 * m + 18
  | 0, _ => Nat.le_refl _
  | m + 1, r => by
    have h := (gf_le (E := fun r => 1 + bf m r) (M := 223 * m + 19) (fun r => by have := bf_le m r; show 1 + bf m r ≤ _; omega) (itn 3 r)).2.2
    have hz := z0_le r
    show max 18 (9 + z0f r + gf (fun r => 1 + bf m r) 2 (itn 3 r)) ≤ _
    omega
def LR (v n j : Nat) (φ : Nat → Nat) : Prop := LN v n (fun p => φ (Xr (p + j)))
theorem LR.mono {v n m j : Nat} {φ : Nat → Nat} (h : LR v n j φ) (hm : m ≤ n) : LR v m j φ := LN.mono h hm
theorem LR.congr {v n j : Nat} {φ ψ : Nat → Nat} (h : LR v n j φ) (hg : ∀ r, φ r = ψ r) : LR v n j ψ := LN.congr h fun _ _ => hg _
theorem LR.add {v w n j : Nat} {φ ψ : Nat → Nat} (hv : LR v n j φ) (hw : LR w n j ψ) (h : ∀ r, φ r + ψ r < 1099511627776) : LR (v + w) n j (fun r => φ r + ψ r) := LN.add hv hw fun _ _ => h _
theorem LR.mul {v n j : Nat} {φ : Nat → Nat} (c : Nat) (hv : LR v n j φ) (h : ∀ r, c * φ r < 1099511627776) : LR (c * v) n j (fun r => c * φ r) := LN.mul c hv fun _ _ => h _
theorem LR.sh {v n j : Nat} {φ : Nat → Nat} (k : Nat) (hv : LR v n j φ) : LR (v >>> (40 * k)) (n - k) j (fun r => φ (itn k r)) := (LN.shift k hv).congr fun p _ => by
  rw [show p + k + j = p + j + k by omega, Xr_it]
theorem LR.and {v w n j : Nat} {φ ψ : Nat → Nat} (hv : LR v n j φ) (hw : LR w n j ψ) : LR (v &&& w) n j (fun r => φ r &&& ψ r) := LN.and hv hw
theorem LR.xor {v w n j : Nat} {φ ψ : Nat → Nat} (hv : LR v n j φ) (hw : LR w n j ψ) : LR (v ^^^ w) n j (fun r => φ r ^^^ ψ r) := LN.xor hv hw
theorem LR.bit {v w n j : Nat} {φ : Nat → Nat} (s : Nat) (hs : ∀ V : Nat, V / 2 ^ s % 1099511627776 % 2 = V % 1099511627776 / 2 ^ s % 2) (hv : LR v n j φ) (hw : LR w n j (fun _ => 1)) : LR ((v >>> s) &&& w) n j (fun r => φ r / 2 ^ s % 2) := LN.bit s hs hv hw
section LO
variable {o n j : Nat}
theorem LR.con (ho : LR o n j (fun _ => 1)) (c : Nat) (hc : c < 1099511627776) : LR (c * o) n j (fun _ => c) := (LR.mul c ho fun _ => by rw [Nat.mul_one]; exact hc).congr fun _ => Nat.mul_one c
theorem LR.not (ho : LR o n j (fun _ => 1)) {v : Nat} {χ : Nat → Nat} (hv : LR v n j χ) (h : ∀ r, χ r ≤ 1) : LR (v ^^^ o) n j (fun r => 1 - χ r) := (LR.xor hv ho).congr fun r => by
  have := h r
  rcases (show χ r = 0 ∨ χ r = 1 by omega) with q | q
  · rw [q]; rfl
  · rw [q]; rfl
theorem x2047 : ∀ b : Fin 2048, b.val ^^^ 2047 = 2047 - b.val := by decide +kernel
theorem a2047 (c : Nat) : c &&& 2047 = c % 2048 := Nat.and_two_pow_sub_one_eq_mod c 11
def vmc (o a b : Nat) : Nat := a + (b ^^^ (2047 * o)) + o
def vmx (o a b : Nat) : Nat := b + (vmc o a b &&& (2047 * ((vmc o a b >>> 11) &&& o)))
theorem LR.max (ho : LR o n j (fun _ => 1)) {v w : Nat} {φ ψ : Nat → Nat} (hv : LR v n j φ) (hw : LR w n j ψ) (h1 : ∀ r, φ r < 2048) (h2 : ∀ r, ψ r < 2048) : LR (vmx o v w) n j (fun r => Max.max (φ r) (ψ r)) := by
  have hc : LR (vmc o v w) n j (fun r => φ r + (2047 - ψ r) + 1) := by
    have hx : LR (w ^^^ (2047 * o)) n j (fun r => 2047 - ψ r) := (LR.xor hw (LR.con ho 2047 (by decide))).congr fun r => x2047 ⟨ψ r, h2 r⟩
    refine LR.add (LR.add hv hx fun r => ?_) ho fun r => ?_
    · have := h1 r
      omega
    · have := h1 r
      omega
  have hb : LR ((vmc o v w >>> 11) &&& o) n j (fun r => (φ r + (2047 - ψ r) + 1) / 2 ^ 11 % 2) := LR.bit 11 (fun V => by rw [show (2 : Nat) ^ 11 = 2048 from rfl]; omega) hc ho
  have hm := LR.mul 2047 hb fun r => by
    have : (φ r + (2047 - ψ r) + 1) / 2 ^ 11 % 2 < 2 := Nat.mod_lt _ (by decide)
    omega
  refine (LR.add hw (LR.and hc hm) fun r => ?_).congr fun r => ?_
  · have := h2 r
    have e : (φ r + (2047 - ψ r) + 1) &&& (2047 * ((φ r + (2047 - ψ r) + 1) / 2 ^ 11 % 2)) ≤ φ r + (2047 - ψ r) + 1 := Nat.and_le_left
    have := h1 r
    omega
  · have a := h1 r
    have b := h2 r
    by_cases q : ψ r ≤ φ r
    · rw [show (φ r + (2047 - ψ r) + 1) / 2 ^ 11 % 2 = 1 by rw [show (2 : Nat) ^ 11 = 2048 from rfl]; omega, Nat.mul_one, a2047]
      omega
    · rw [show (φ r + (2047 - ψ r) + 1) / 2 ^ 11 % 2 = 0 by rw [show (2 : Nat) ^ 11 = 2048 from rfl]; omega, Nat.mul_zero, Nat.and_zero]
      omega
theorem LR.sel {v c : Nat} {φ χ : Nat → Nat} (hv : LR v n j φ) (hc : LR c n j χ) (h1 : ∀ r, φ r < 2048) (h2 : ∀ r, χ r ≤ 1) : LR (v &&& (2047 * c)) n j (fun r => if χ r = 1 then φ r else 0) := by
  have hm := LR.mul 2047 hc fun r => by have := h2 r; omega
  refine (LR.and hv hm).congr fun r => ?_
  have a := h1 r
  have b := h2 r
  by_cases q : χ r = 1
  · rw [if_pos q, q, Nat.mul_one, a2047, Nat.mod_eq_of_lt a]
  · rw [if_neg q, show χ r = 0 by omega, Nat.mul_zero, Nat.and_zero]
theorem LR.an {v c : Nat} {φ χ : Nat → Nat} (hv : LR v n j φ) (hc : LR c n j χ) (h1 : ∀ r, φ r ≤ 1) (h2 : ∀ r, χ r ≤ 1) : LR (v &&& c) n j (fun r => φ r * χ r) := (LR.and hv hc).congr fun r => by
  have a := h1 r
  have b := h2 r
  rcases (show φ r = 0 ∨ φ r = 1 by omega) with p | p <;> rcases (show χ r = 0 ∨ χ r = 1 by omega) with q | q <;> rw [p, q] <;> rfl
end LO
