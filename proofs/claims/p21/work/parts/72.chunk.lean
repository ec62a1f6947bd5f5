/-! pure: no text is too long -/
def vH (o x : Nat) : Nat := ((x >>> (40 * 1)) >>> 17) &&& o
def vL (o x : Nat) : Nat := ((x >>> (40 * 1)) >>> 16) &&& o
def vZ (o h l : Nat) : Nat := (h ^^^ o) &&& (l ^^^ o)
def vLs (o l z : Nat) : Nat := 5 * o + z >>> (40 * 3) + 5 * (l >>> (40 * 6)) + 8 * (l &&& ((z >>> (40 * 1)) ^^^ o))
def vT3 (s v : Nat) : Nat := s + v >>> (40 * 8)
def vT2 (o s v : Nat) : Nat := s + vmx o (v >>> (40 * 8)) (5 * o + vT3 s v >>> (40 * 8))
def vT1 (o s v : Nat) : Nat := s + vmx o (v >>> (40 * 8)) (5 * o + vT2 o s v >>> (40 * 8))
def vSt (o l s v : Nat) : Nat := ((o + vT1 o s v >>> (40 * 2)) &&& (2047 * l)) + ((o + s >>> (40 * 2) + v >>> (40 * 10)) &&& (2047 * (l ^^^ o)))
def vG0 (o l s e : Nat) : Nat := vSt o l s e
def vG1 (o l s e : Nat) : Nat := vSt o l s (vmx o e (4 * o + vG0 o l s e))
def vG2 (o l s e : Nat) : Nat := vSt o l s (vmx o e (4 * o + vG1 o l s e))
def vBn (o l z s b : Nat) : Nat := vmx o (18 * o) (9 * o + z + vG2 o l s (o + b) >>> (40 * 3))
def vFn (o h l b : Nat) : Nat := ((18 * o + b >>> (40 * 6)) &&& (2047 * ((h ^^^ o) &&& l))) + ((30 * o + b >>> (40 * 10)) &&& (2047 * (h &&& (l ^^^ o)))) + ((42 * o + b >>> (40 * 14)) &&& (2047 * (h &&& l)))
def vF2 (o h l z s : Nat) : Nat := vFn o h l (vBn o l z s (vBn o l z s (vBn o l z s (vBn o l z s (18 * o)))))
def vF1 (o h l z : Nat) : Nat := vF2 o h l z (vLs o l z)
def vF0 (o h l : Nat) : Nat := vF1 o h l (vZ o h l)
def vF (o x : Nat) : Nat := vF0 o (vH o x) (vL o x)
def AJ : Nat → Nat
  | 0 => 1
  | c + 1 => AJ c * Aj 14 % 262144
def CJ : Nat → Nat
  | 0 => 0
  | c + 1 => (Aj 14 * CJ c + Cj 14) % 262144
def vX (c : Nat) : Nat := (AJ c * resN 15 + CJ c * oneN 15) &&& (262143 * oneN 15)
def chk (c : Nat) : Nat := ((vF (oneN 15) (vX c) + 1347 * oneN 15) >>> 11) &&& oneN 14
section CH
variable {o h l z s v b x n j : Nat} {N E φ : Nat → Nat}
theorem H_ok (ho : LR o n j (fun _ => 1)) (hx : LR x n j (fun r => r)) : LR (vH o x) (n - 1) j hb := (LR.bit 17 (fun V => by rw [show (2 : Nat) ^ 17 = 131072 from rfl]; omega) (LR.sh 1 hx) (ho.mono (by omega))).congr fun r => by
  show itn 1 r / 2 ^ 17 % 2 = nx r / 131072 % 2
  rw [show (2 : Nat) ^ 17 = 131072 from rfl]
  rfl
theorem L_ok (ho : LR o n j (fun _ => 1)) (hx : LR x n j (fun r => r)) : LR (vL o x) (n - 1) j lb := (LR.bit 16 (fun V => by rw [show (2 : Nat) ^ 16 = 65536 from rfl]; omega) (LR.sh 1 hx) (ho.mono (by omega))).congr fun r => by
  show itn 1 r / 2 ^ 16 % 2 = nx r / 65536 % 2
  rw [show (2 : Nat) ^ 16 = 65536 from rfl]
  rfl
theorem Z_ok (ho : LR o n j (fun _ => 1)) (hh : LR h n j hb) (hl : LR l n j lb) : LR (vZ o h l) n j z0f := LR.an (LR.not ho hh hb_le) (LR.not ho hl lb_le) (fun r => by omega) (fun r => by omega)
theorem S_ok (ho : LR o n j (fun _ => 1)) (hl : LR l n j lb) (hz : LR z n j z0f) : LR (vLs o l z) (n - 6) j lsf := by
  have h3 := (LR.sh 3 hz).mono (show n - 6 ≤ n - 3 by omega)
  have h6 := LR.sh 6 hl
  have h1 := (LR.not (ho.mono (show n - 1 ≤ n by omega)) (LR.sh 1 hz) (fun r => z0_le _)).mono (show n - 6 ≤ n - 1 by omega)
  have ha := LR.an (hl.mono (show n - 6 ≤ n by omega)) h1 lb_le (fun r => by omega)
  have h5 := LR.con (ho.mono (show n - 6 ≤ n by omega)) 5 (by decide)
  have b1 : ∀ r, 5 + z0f (itn 3 r) ≤ 6 := fun r => by have := z0_le (itn 3 r); omega
  have b2 : ∀ r, 5 * lb (itn 6 r) ≤ 5 := fun r => by have := lb_le (itn 6 r); omega
  have b3 : ∀ r, 8 * (lb r * (1 - z0f (itn 1 r))) ≤ 8 := fun r => by have := mul01 (lb_le r) (show 1 - z0f (itn 1 r) ≤ 1 by omega); omega
  exact LR.add (LR.add (LR.add h5 h3 fun r => by have := b1 r; omega) (LR.mul 5 h6 fun r => by have := b2 r; omega) fun r => by have := b1 r; have := b2 r; omega) (LR.mul 8 ha fun r => by have := b3 r; omega) fun r => by have := b1 r; have := b2 r; have := b3 r; omega
theorem St_ok (ho : LR o n j (fun _ => 1)) (hl : LR l n j lb) (hs : LR s n j lsf) (hv : LR v n j N) (hN : ∀ r, N r ≤ 1900) : LR (vSt o l s v) (n - 26) j (stf N) := by
  have hb := stf_le hN
  have t3 : LR (vT3 s v) (n - 8) j (t3f N) := LR.add (hs.mono (by omega)) (LR.sh 8 hv) fun r => by have := lsf_le r; have := hN (itn 8 r); omega
  have c5 := LR.con ho 5 (by decide)
  have t2 : LR (vT2 o s v) (n - 16) j (t2f N) := by
    have a := LR.sh 8 t3
    rw [show n - 8 - 8 = n - 16 by omega] at a
    have b := LR.add (c5.mono (show n - 16 ≤ n by omega)) a fun r => by have := (hb (itn 8 r)).1; omega
    have c := LR.max (ho.mono (show n - 16 ≤ n by omega)) ((LR.sh 8 hv).mono (show n - 16 ≤ n - 8 by omega)) b (fun r => by have := hN (itn 8 r); omega) (fun r => by have := (hb (itn 8 r)).1; omega)
    exact LR.add (hs.mono (by omega)) c fun r => by have := lsf_le r; have := hN (itn 8 r); have := (hb (itn 8 r)).1; omega
  have t1 : LR (vT1 o s v) (n - 24) j (t1f N) := by
    have a := LR.sh 8 t2
    rw [show n - 16 - 8 = n - 24 by omega] at a
    have b := LR.add (c5.mono (show n - 24 ≤ n by omega)) a fun r => by have := (hb (itn 8 r)).2.1; omega
    have c := LR.max (ho.mono (show n - 24 ≤ n by omega)) ((LR.sh 8 hv).mono (show n - 24 ≤ n - 8 by omega)) b (fun r => by have := hN (itn 8 r); omega) (fun r => by have := (hb (itn 8 r)).2.1; omega)
    exact LR.add (hs.mono (by omega)) c fun r => by have := lsf_le r; have := hN (itn 8 r); have := (hb (itn 8 r)).2.1; omega
  have o' := ho.mono (show n - 26 ≤ n by omega)
  have l' := hl.mono (show n - 26 ≤ n by omega)
  have a1 := LR.sh 2 t1
  rw [show n - 24 - 2 = n - 26 by omega] at a1
  have a2 := LR.add o' a1 fun r => by have := (hb (itn 2 r)).2.2.1; omega
  have a3 := LR.sel a2 l' (fun r => by have := (hb (itn 2 r)).2.2.1; omega) lb_le
  have b1 := LR.add o' ((LR.sh 2 hs).mono (show n - 26 ≤ n - 2 by omega)) fun r => by have := lsf_le (itn 2 r); omega
  have b2 := LR.add b1 ((LR.sh 10 hv).mono (show n - 26 ≤ n - 10 by omega)) fun r => by have := lsf_le (itn 2 r); have := hN (itn 10 r); omega
  have b3 := LR.sel b2 (LR.not o' l' lb_le) (fun r => by have := lsf_le (itn 2 r); have := hN (itn 10 r); omega) (fun r => by omega)
  refine (LR.add a3 b3 fun r => ?_).congr fun r => ?_
  · have := (hb (itn 2 r)).2.2.1
    have := lsf_le (itn 2 r)
    have := hN (itn 10 r)
    split <;> split <;> omega
  · unfold stf
    have := lb_le r
    by_cases q : lb r = 1
    · rw [if_pos q, if_pos q, if_neg (by omega)]
      rfl
    · rw [if_neg q, if_neg q, if_pos (by omega), Nat.zero_add]
theorem G_ok (ho : LR o n j (fun _ => 1)) (hl : LR l n j lb) (hs : LR s n j lsf) (hv : LR v n j E) (hE : ∀ r, E r ≤ 1600) : LR (vG2 o l s v) (n - 78) j (gf E 2) := by
  have hg := gf_le hE
  have g0 : LR (vG0 o l s v) (n - 26) j (gf E 0) := St_ok ho hl hs hv fun r => by have := hE r; omega
  have c4 := LR.con ho 4 (by decide)
  have step : ∀ (w m k : Nat), m ≤ n → LR w m j (gf E k) → (∀ r, gf E k r ≤ 1800) → LR (vSt o l s (vmx o v (4 * o + w))) (m - 26) j (gf E (k + 1)) := fun w m k hm hw hk => by
    have a := LR.add (c4.mono hm) hw fun r => by have := hk r; omega
    have b := LR.max (ho.mono hm) (hv.mono hm) a (fun r => by have := hE r; omega) (fun r => by have := hk r; omega)
    exact St_ok (ho.mono hm) (hl.mono hm) (hs.mono hm) b fun r => by have := hE r; have := hk r; omega
  have g1 := step _ (n - 26) 0 (by omega) g0 (fun r => by have := (hg r).1; omega)
  rw [show n - 26 - 26 = n - 52 by omega] at g1
  have g2 := step _ (n - 52) 1 (by omega) g1 (fun r => by have := (hg r).2.1; omega)
  rw [show n - 52 - 26 = n - 78 by omega] at g2
  exact g2
theorem B_ok (ho : LR o n j (fun _ => 1)) (hl : LR l n j lb) (hz : LR z n j z0f) (hs : LR s n j lsf) {m : Nat} (hm : m < 4) (hv : LR v n j (bf m)) : LR (vBn o l z s v) (n - 81) j (bf (m + 1)) := by
  have hbm := bf_le m
  have hE : ∀ r, 1 + bf m r ≤ 1600 := fun r => by have := hbm r; omega
  have he := LR.add ho hv fun r => by have := hE r; omega
  have hg := LR.sh 3 (G_ok ho hl hs he hE)
  rw [show n - 78 - 3 = n - 81 by omega] at hg
  have hgl : ∀ r, gf (fun r => 1 + bf m r) 2 r ≤ 1812 := fun r => (gf_le hE r).2.2
  have hgl2 : ∀ r, gf (fun r => 1 + bf m r) 2 r ≤ 212 + (223 * 3 + 19) := fun r => (gf_le (E := fun r => 1 + bf m r) (M := 223 * 3 + 19) (fun r => by have := hbm r; show 1 + bf m r ≤ _; omega) r).2.2
  have o' := ho.mono (show n - 81 ≤ n by omega)
  have a := LR.add (LR.add (LR.con o' 9 (by decide)) (hz.mono (show n - 81 ≤ n by omega)) fun r => by have := z0_le r; omega) hg fun r => by have := z0_le r; have := hgl (itn 3 r); omega
  exact LR.max o' (LR.con o' 18 (by decide)) a (fun r => by decide) (fun r => by have := z0_le r; have := hgl2 (itn 3 r); omega)
theorem B4_ok (ho : LR o n j (fun _ => 1)) (hl : LR l n j lb) (hz : LR z n j z0f) (hs : LR s n j lsf) : LR (vBn o l z s (vBn o l z s (vBn o l z s (vBn o l z s (18 * o))))) (n - 324) j (bf 4) := by
  have b0 : LR (18 * o) n j (bf 0) := LR.con ho 18 (by decide)
  have b1 := B_ok ho hl hz hs (by decide) b0
  have m1 : n - 81 ≤ n := Nat.sub_le _ _
  have b2 := B_ok (ho.mono m1) (hl.mono m1) (hz.mono m1) (hs.mono m1) (by decide) b1
  rw [Nat.sub_sub] at b2
  have m2 : n - (81 + 81) ≤ n := Nat.sub_le _ _
  have b3 := B_ok (ho.mono m2) (hl.mono m2) (hz.mono m2) (hs.mono m2) (by decide) b2
  rw [Nat.sub_sub] at b3
  have m3 : n - (81 + 81 + 81) ≤ n := Nat.sub_le _ _
  have b4 := B_ok (ho.mono m3) (hl.mono m3) (hz.mono m3) (hs.mono m3) (by decide) b3
  rw [Nat.sub_sub] at b4
  exact b4
theorem Fn_ok (ho : LR o n j (fun _ => 1)) (hh : LR h n j hb) (hl : LR l n j lb) (hb4 : LR b n j (bf 4)) : LR (vFn o h l b) (n - 14) j ff := by
  have h4 : ∀ r, bf 4 r ≤ 910 := fun r => bf_le 4 r
  have m : n - 14 ≤ n := Nat.sub_le _ _
  have o' := ho.mono m
  have h' := hh.mono m
  have l' := hl.mono m
  have nh := LR.not o' h' hb_le
  have nl := LR.not o' l' lb_le
  have p1 := LR.add (ψ := fun r => bf 4 (itn 6 r)) (LR.con o' 18 (by decide)) ((LR.sh 6 hb4).mono (Nat.sub_le_sub_left (by decide) n)) fun r => by have := h4 (itn 6 r); show 18 + bf 4 (itn 6 r) < _; omega
  have p2 := LR.add (ψ := fun r => bf 4 (itn 10 r)) (LR.con o' 30 (by decide)) ((LR.sh 10 hb4).mono (Nat.sub_le_sub_left (by decide) n)) fun r => by have := h4 (itn 10 r); show 30 + bf 4 (itn 10 r) < _; omega
  have p3 := LR.add (ψ := fun r => bf 4 (itn 14 r)) (LR.con o' 42 (by decide)) (LR.sh 14 hb4) fun r => by have := h4 (itn 14 r); show 42 + bf 4 (itn 14 r) < _; omega
  have q1 := LR.sel p1 (LR.an nh l' (fun r => Nat.sub_le _ _) lb_le) (fun r => by have := h4 (itn 6 r); show 18 + bf 4 (itn 6 r) < _; omega) (fun r => mul01 (Nat.sub_le _ _) (lb_le r))
  have q2 := LR.sel p2 (LR.an h' nl hb_le (fun r => Nat.sub_le _ _)) (fun r => by have := h4 (itn 10 r); show 30 + bf 4 (itn 10 r) < _; omega) (fun r => mul01 (hb_le r) (Nat.sub_le _ _))
  have q3 := LR.sel p3 (LR.an h' l' hb_le lb_le) (fun r => by have := h4 (itn 14 r); show 42 + bf 4 (itn 14 r) < _; omega) (fun r => mul01 (hb_le r) (lb_le r))
  have le : ∀ (c : Prop) [Decidable c] (x : Nat), (if c then x else 0) ≤ x := fun c _ x => by split; exact Nat.le_refl _; exact Nat.zero_le _
  refine LR.add (LR.add q1 q2 fun r => ?_) q3 fun r => ?_
  · have a := le ((1 - hb r) * lb r = 1) (18 + bf 4 (itn 6 r))
    have b := le (hb r * (1 - lb r) = 1) (30 + bf 4 (itn 10 r))
    have := h4 (itn 6 r)
    have := h4 (itn 10 r)
    omega
  · have a := le ((1 - hb r) * lb r = 1) (18 + bf 4 (itn 6 r))
    have b := le (hb r * (1 - lb r) = 1) (30 + bf 4 (itn 10 r))
    have c := le (hb r * lb r = 1) (42 + bf 4 (itn 14 r))
    have := h4 (itn 6 r)
    have := h4 (itn 10 r)
    have := h4 (itn 14 r)
    omega
theorem F_ok (ho : LR o n j (fun _ => 1)) (hx : LR x n j (fun r => r)) : LR (vF o x) (n - 345) j ff := by
  have o1 := ho.mono (Nat.sub_le n 1)
  have hh := H_ok ho hx
  have hl := L_ok ho hx
  have hz := Z_ok o1 hh hl
  have hs := S_ok o1 hl hz
  have m : n - 1 - 6 ≤ n - 1 := Nat.sub_le _ _
  have b4 := B4_ok (o1.mono m) (hl.mono m) (hz.mono m) hs
  have m2 : n - 1 - 6 - 324 ≤ n - 1 := Nat.le_trans (Nat.sub_le _ _) m
  have r := Fn_ok (o1.mono m2) (hh.mono m2) (hl.mono m2) b4
  rw [Nat.sub_sub, Nat.sub_sub, Nat.sub_sub] at r
  exact r
end CH
theorem AJ_lt : ∀ c, AJ c < 262144
  | 0 => by decide
  | k + 1 => Nat.mod_lt _ (by decide)
theorem CJ_lt : ∀ c, CJ c < 262144
  | 0 => by decide
  | k + 1 => Nat.mod_lt _ (by decide)
theorem Xr_c : ∀ c q, Xr (q + c * 16384) = (AJ c * Xr q + CJ c) % 262144
  | 0, q => by
    rw [Nat.zero_mul]
    show Xr q = (1 * Xr q + 0) % 262144
    rw [Nat.one_mul, Nat.add_zero, Nat.mod_eq_of_lt (Xr_lt q)]
  | c + 1, q => by
    have ih := Xr_c c q
    rw [show q + (c + 1) * 16384 = q + c * 16384 + 2 ^ 14 by omega, Xr_j, ih]
    show _ = (AJ c * Aj 14 % 262144 * Xr q + (Aj 14 * CJ c + Cj 14) % 262144) % 262144
    generalize Aj 14 = A
    generalize Cj 14 = C
    generalize AJ c = A'
    generalize CJ c = C'
    generalize Xr q = x
    rw [Nat.add_mod (A * ((A' * x + C') % 262144)) C, Nat.mul_mod A, Nat.mod_mod, ← Nat.mul_mod, ← Nat.add_mod]
    rw [Nat.add_mod (A' * A % 262144 * x), Nat.mod_mod, Nat.mul_mod (A' * A % 262144), Nat.mod_mod, ← Nat.mul_mod, ← Nat.add_mod]
    congr 1
    rw [Nat.mul_add, Nat.mul_comm A' A, Nat.mul_assoc, Nat.add_assoc]
theorem ff_le (r : Nat) : ff r ≤ 960 := by
  have h4 : ∀ r, bf 4 r ≤ 910 := fun r => bf_le 4 r
  have h1 := h4 (itn 6 r)
  have h2 := h4 (itn 10 r)
  have h3 := h4 (itn 14 r)
  have a := hb_le r
  have b := lb_le r
  unfold ff
  generalize hb r = x at a ⊢
  generalize lb r = y at b ⊢
  rcases (show x = 0 ∨ x = 1 by omega) with rfl | rfl <;> rcases (show y = 0 ∨ y = 1 by omega) with rfl | rfl <;> simp only [Nat.sub_self, Nat.sub_zero, Nat.mul_zero, Nat.zero_mul, Nat.mul_one, Nat.zero_ne_one, if_true, if_false, Nat.zero_add, Nat.add_zero] <;> omega
theorem chk_ok {c : Nat} (h : chk c = 0) (p : Nat) (hp : p < 16384) : ff (Xr (p + c * 16384)) ≤ 700 := by
  obtain ⟨o1, -⟩ := oneN_ok 15
  obtain ⟨o14, -⟩ := oneN_ok 14
  obtain ⟨x1, -⟩ := resN_ok 15
  have hA := AJ_lt c
  have hC := CJ_lt c
  have ha : LN (AJ c * resN 15) (2 ^ 15) (fun p => AJ c * Xr p) := x1.mul _ fun p _ => by
    have := Nat.mul_le_mul (Nat.le_of_lt hA) (Nat.le_of_lt (Xr_lt p))
    omega
  have hc : LN (CJ c * oneN 15) (2 ^ 15) (fun _ => CJ c * 1) := o1.mul _ fun p _ => by omega
  have hs : LN (AJ c * resN 15 + CJ c * oneN 15) (2 ^ 15) (fun p => AJ c * Xr p + CJ c * 1) := ha.add hc fun p _ => by
    have := Nat.mul_le_mul (Nat.le_of_lt hA) (Nat.le_of_lt (Xr_lt p))
    omega
  have hm : LN (262143 * oneN 15) (2 ^ 15) (fun _ => 262143) := (o1.mul 262143 fun p _ => by decide).congr fun _ _ => rfl
  have hx : LR (vX c) (2 ^ 15) (c * 16384) (fun r => r) := (hs.low hm).congr fun p _ => by rw [Nat.mul_one, Xr_c]
  have ho : LR (oneN 15) (2 ^ 15) (c * 16384) (fun _ => 1) := o1
  have hF := F_ok ho hx
  have hFc := LR.add hF (LR.con (ho.mono (show 2 ^ 15 - 345 ≤ 2 ^ 15 from Nat.sub_le _ _)) 1347 (by decide)) fun r => by have := ff_le r; omega
  have hbit := LN.bit (w := oneN 14) (n := 2 ^ 14) 11 (fun V => by rw [show (2 : Nat) ^ 11 = 2048 from rfl]; omega) (LN.mono hFc (by decide)) o14
  have hz := hbit p hp
  have hchk : (vF (oneN 15) (vX c) + 1347 * oneN 15) >>> 11 &&& oneN 14 = 0 := h
  rw [hchk] at hz
  have hz : (0 >>> (40 * p)) % 2 ^ 40 = (ff (Xr (p + c * 16384)) + 1347) / 2 ^ 11 % 2 := hz
  rw [Nat.zero_shiftRight, Nat.zero_mod, show (2 : Nat) ^ 11 = 2048 from rfl] at hz
  have := ff_le (Xr (p + c * 16384))
  omega
