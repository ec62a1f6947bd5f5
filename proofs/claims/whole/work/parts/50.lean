/-! pure: the text's bytes and tokens -/
theorem sx_cases {x : Int32} (h : sx x) : (0 ≤ x.toInt ∧ x &&& 255 = x ∧ x.toInt < 128) ∨ (x.toInt < 0 ∧ 128 ≤ (x &&& 255).toInt ∧ (x &&& 255).toInt < 256) := by
  have key : ∀ b : Fin 256, (fun y : Int32 => (0 ≤ y.toInt ∧ y &&& 255 = y ∧ y.toInt < 128) ∨ (y.toInt < 0 ∧ 128 ≤ (y &&& 255).toInt ∧ (y &&& 255).toInt < 256)) (Int8.ofNat b.val).toInt32 := by decide +kernel
  have e : ∀ z : Int8, ∃ b : Fin 256, Int8.ofNat b.val = z := fun z => ⟨⟨z.toUInt8.toNat, z.toUInt8.toNat_lt⟩, by
    apply Int8.toBitVec_inj.mp
    simp [Int8.ofNat]⟩
  obtain ⟨b, hb⟩ := e x.toInt8
  have := key b
  rw [hb, h] at this
  exact this
/-- what a byte of the class is, told by the reference's -/
theorem eqB.cases {x y : Int32} (h : eqB x y) : (x = y ∧ 0 ≤ y.toInt ∧ y.toInt < 128) ∨ (x.toInt < 0 ∧ 128 ≤ y.toInt ∧ y.toInt < 256) := by
  obtain ⟨h1, h2⟩ := h
  rcases sx_cases h2 with ⟨a, b, c⟩ | ⟨a, b, c⟩
  · exact Or.inl ⟨b.symm.trans h1, by rw [← h1, b]; exact a, by rw [← h1, b]; exact c⟩
  · exact Or.inr ⟨a, by rw [← h1]; exact b, by rw [← h1]; exact c⟩
theorem eqB.eq {x y c : Int32} (h : eqB x y) (h0 : 0 ≤ c.toInt) (h1 : c.toInt < 128) : x = c ↔ y = c := by
  rcases h.cases with ⟨rfl, -, -⟩ | ⟨a, b, -⟩
  · exact Iff.rfl
  · rw [eqI, eqI]; omega
theorem eqB.lt {x y c d : Int32} (h : eqB x y) (h0 : 0 ≤ c.toInt) (h1 : d.toInt < 128) : (¬ x < c ∧ ¬ d < x) ↔ (¬ y < c ∧ ¬ d < y) := by
  rcases h.cases with ⟨rfl, -, -⟩ | ⟨a, b, -⟩
  · exact Iff.rfl
  · rw [ltI, ltI, ltI, ltI]; omega
def isD (y : Int32) : Bool := !decide (y < 48) && !decide (57 < y)
def isA (y : Int32) : Bool := !decide (y < 97) && !decide (122 < y)
def isG (y : Int32) : Bool := decide (y = 59) || decide (y = 42) || decide (y = 58)
/-- the kind of the byte at i -/
def kd (T : FS) (L i : Nat) : Int32 := if L ≤ i then 0 else if isD (T i) then 1 else if isA (T i) then 2 else if isG (T i) then 3 else if T i = 32 then 4 else 5
def BT (β T : FS) (L : Nat) : Prop := L ≤ 700 ∧ ∀ i, i < L → eqB (β i) (T i)
theorem c_kind {F : Nat} {β T : FS} {τ ρ : MS} {L i : Nat} (hB : BT β T L) (h4 : ρ 4 0 = nI L) (hi : i < 100000) : mX1_kindAt F β τ ρ (nI i) = some (kd T L i) := by
  have hL := hB.1
  unfold mX1_kindAt kd
  rw [if_neg (nI_nl0 (by omega)), h4]
  by_cases h : i < L
  · have hb := hB.2 i h
    rw [if_pos ((nI_ltI (by omega) (by omega)).mpr h), if_neg (by omega), ob1_e, cnd_F, rd_at (by omega) (by decide), ob1_e]
    have hd := hb.lt (c := 48) (d := 57) (by decide) (by decide)
    have ha := hb.lt (c := 97) (d := 122) (by decide) (by decide)
    have g1 := hb.eq (c := 59) (by decide) (by decide)
    have g2 := hb.eq (c := 42) (by decide) (by decide)
    have g3 := hb.eq (c := 58) (by decide) (by decide)
    have g4 := hb.eq (c := 32) (by decide) (by decide)
    have e1 : (if β i < (48 : Int32) then some false else (if (57 : Int32) < β i then some false else some true)) = some (isD (T i)) := by
      unfold isD
      by_cases q : β i < 48
      · have : ¬ (¬ T i < 48 ∧ ¬ 57 < T i) := fun h => (hd.mpr h).1 q
        by_cases q1 : T i < 48 <;> by_cases q2 : 57 < T i <;> simp_all
      · by_cases q3 : 57 < β i
        · have : ¬ (¬ T i < 48 ∧ ¬ 57 < T i) := fun h => (hd.mpr h).2 q3
          by_cases q1 : T i < 48 <;> by_cases q2 : 57 < T i <;> simp_all
        · have := hd.mp ⟨q, q3⟩
          simp [q, q3, this.1, this.2]
    have e2 : (if β i < (97 : Int32) then some false else (if (122 : Int32) < β i then some false else some true)) = some (isA (T i)) := by
      unfold isA
      by_cases q : β i < 97
      · have : ¬ (¬ T i < 97 ∧ ¬ 122 < T i) := fun h => (ha.mpr h).1 q
        by_cases q1 : T i < 97 <;> by_cases q2 : 122 < T i <;> simp_all
      · by_cases q3 : 122 < β i
        · have : ¬ (¬ T i < 97 ∧ ¬ 122 < T i) := fun h => (ha.mpr h).2 q3
          by_cases q1 : T i < 97 <;> by_cases q2 : 122 < T i <;> simp_all
        · have := ha.mp ⟨q, q3⟩
          simp [q, q3, this.1, this.2]
    have e3 : (if β i = (59 : Int32) then some true else (if β i = (42 : Int32) then some true else (if β i = (58 : Int32) then some true else some false))) = some (isG (T i)) := by
      unfold isG
      simp only [g1, g2, g3]
      by_cases q1 : T i = 59 <;> by_cases q2 : T i = 42 <;> by_cases q3 : T i = 58 <;> simp [q1, q2, q3]
    rw [e1, ob1_e, e2, ob1_e, e3, ob1_e]
    simp only [g4]
    cases isD (T i) <;> cases isA (T i) <;> cases isG (T i) <;> by_cases q : T i = 32 <;> simp [q, cnd, ob1]
  · rw [if_neg (fun q => h ((nI_ltI (by omega) (by omega)).mp q)), if_pos (by omega), ob1_e, cnd_T]
/-- on, as long as P -/
def skp (P : Nat → Bool) : Nat → Nat → Nat
  | 0, i => i
  | f + 1, i => if P i then skp P f (i + 1) else i
theorem skp_ge (P : Nat → Bool) : ∀ f i, i ≤ skp P f i := by
  intro f
  induction f with
  | zero => intro i; exact Nat.le_refl _
  | succ f ih => intro i; unfold skp; split
                 · have := ih (i + 1); omega
                 · exact Nat.le_refl _
theorem skp_in (P : Nat → Bool) : ∀ f i x, i ≤ x → x < skp P f i → P x = true := by
  intro f
  induction f with
  | zero => intro i x h1 h2; unfold skp at h2; omega
  | succ f ih =>
    intro i x h1 h2
    unfold skp at h2
    split at h2
    · next q =>
      by_cases h : x = i
      · rw [h]; exact q
      · exact ih (i + 1) x (by omega) h2
    · omega
/-- P fails somewhere behind i within f -/
theorem skp_out {P : Nat → Bool} {L : Nat} (hP : ∀ i, P i = true → i < L) : ∀ f i, L < f + i → P (skp P f i) = false := by
  intro f
  induction f with
  | zero => intro i h; unfold skp; cases q : P i with
    | false => rfl
    | true => have := hP i q; omega
  | succ f ih =>
    intro i h
    unfold skp
    split
    · exact ih (i + 1) (by omega)
    · next q => simpa using q
theorem skp_le {P : Nat → Bool} {L : Nat} (hP : ∀ i, P i = true → i < L) : ∀ f i, i ≤ L → skp P f i ≤ L := by
  intro f
  induction f with
  | zero => intro i h; exact h
  | succ f ih =>
    intro i h
    unfold skp
    split
    · next q => exact ih (i + 1) (hP i q)
    · exact h
theorem skp_uniq {P : Nat → Bool} {f i e : Nat} (h1 : i ≤ e) (h2 : ∀ x, i ≤ x → x < e → P x = true) (h3 : P e = false) (hf : e < f + i) : skp P f i = e := by
  induction f generalizing i with
  | zero => omega
  | succ f ih =>
    unfold skp
    by_cases q : i = e
    · subst q; rw [h3]; rfl
    · rw [h2 i (Nat.le_refl _) (by omega)]
      exact ih (by omega) (fun x a b => h2 x (by omega) b) (by omega)
theorem skp_stop {P : Nat → Bool} {f i : Nat} (h : P i = false) : skp P f i = i := by
  cases f with
  | zero => rfl
  | succ f => unfold skp; rw [h]; rfl
theorem ok_scan {α β : Type} {f : α → Option (β ⊕ α)} (P : Nat → Bool) (R : Nat → α → Prop) {Q : β → Prop} (hs : ∀ i a, R i a → P i = true → ok (f a) (fun r => ∃ a', r = .inr a' ∧ R (i + 1) a')) : ∀ (n i fu : Nat) (a : α), n < fu → R i a → P (skp P n i) = false → (∀ a, R (skp P n i) a → ok (f a) (fun r => ∃ b, r = .inl b ∧ Q b)) → ok (loopM f fu a) Q := by
  intro n
  induction n with
  | zero =>
    intro i fu a h1 h2 h3 hx
    obtain ⟨r, e1, b, rfl, e2⟩ := hx a h2
    exact ⟨b, loop_gol e1 (by omega), e2⟩
  | succ n ih =>
    intro i fu a h1 h2 h3 hx
    unfold skp at h3 hx
    cases q : P i with
    | true =>
      rw [if_pos q] at h3 hx
      obtain ⟨r, e1, a', rfl, e2⟩ := hs i a h2 q
      obtain ⟨b, e3, e4⟩ := ih (i + 1) (fu - 1) a' (by omega) e2 h3 hx
      exact ⟨b, (loop_gen e1 (by omega)).trans e3, e4⟩
    | false =>
      rw [if_neg (by rw [q]; simp)] at h3 hx
      obtain ⟨r, e1, b, rfl, e2⟩ := hx a h2
      exact ⟨b, loop_gol e1 (by omega), e2⟩
section TO
variable {T : FS} {L : Nat}
def isS (T : FS) (L i : Nat) : Bool := decide (i < L) && decide (T i = 32)
def sk (T : FS) (L i : Nat) : Nat := skp (isS T L) 1000 i
theorem isS_lt {i : Nat} (h : isS T L i = true) : i < L := by
  unfold isS at h
  rw [Bool.and_eq_true, decide_eq_true_eq] at h
  exact h.1
theorem sk_out (hL : L ≤ 700) (i : Nat) : isS T L (sk T L i) = false := skp_out (fun i h => isS_lt h) 1000 i (by omega)
theorem sk_le {i : Nat} (h : i ≤ L) : sk T L i ≤ L := skp_le (fun i h => isS_lt h) 1000 i h
theorem sk_ge (i : Nat) : i ≤ sk T L i := skp_ge _ _ _
theorem sk_sk (hL : L ≤ 700) (i : Nat) : sk T L (sk T L i) = sk T L i := skp_stop (sk_out hL i)
theorem kd_4 {i : Nat} : (kd T L i = 4) ↔ isS T L i = true := by
  unfold kd isS
  by_cases h : i < L
  · rw [if_neg (by omega)]
    by_cases q : T i = 32
    · rw [q]
      have e1 : isD 32 = false := by decide
      have e2 : isA 32 = false := by decide
      have e3 : isG 32 = false := by decide
      simp [e1, e2, e3, h]
    · cases isD (T i) <;> cases isA (T i) <;> cases isG (T i) <;> simp [q, h]
  · rw [if_pos (by omega)]
    simp [h]
def isK (T : FS) (L : Nat) (k : Int32) (i : Nat) : Bool := decide (i < L) && decide (kd T L i = k)
/-- the end of the token at p -/
def te (T : FS) (L p : Nat) : Nat := if kd T L p = 3 ∨ kd T L p = 5 then p + 1 else skp (isK T L (kd T L p)) 1000 p
def nst (x y : Int32) : Int32 := if (((10 : Int32) * x) + y) - (48 : Int32) < (1000000 : Int32) then (((10 : Int32) * x) + y) - (48 : Int32) else (1000000 : Int32)
/-- the number from p to e -/
def nb (T : FS) (p e : Nat) : Int32 := fo (fun i x => nst x (T i)) p (e - p) 0
def nm (T : FS) (L p : Nat) : Int32 := if kd T L p = 1 then nb T p (te T L p) else 0
theorem nb_s {p e : Nat} (h : p ≤ e) : nb T p (e + 1) = nst (nb T p e) (T e) := by
  unfold nb
  rw [show e + 1 - p = (e - p) + 1 by omega, fo_end, show p + (e - p) = e by omega]
theorem isK_lt {k : Int32} {i : Nat} (h : isK T L k i = true) : i < L := by
  unfold isK at h
  rw [Bool.and_eq_true, decide_eq_true_eq] at h
  exact h.1
theorem kd_lt {p : Nat} (h : kd T L p ≠ 0) : p < L := by
  unfold kd at h
  by_cases q : L ≤ p
  · rw [if_pos q] at h; exact absurd rfl h
  · omega
theorem te_le (hL : L ≤ 700) {p : Nat} (h : p ≤ L) : te T L p ≤ L := by
  unfold te
  split
  · next q =>
    have := kd_lt (T := T) (L := L) (p := p) (by rcases q with q | q <;> rw [q] <;> decide)
    omega
  · exact skp_le (fun i h => isK_lt h) 1000 p h
theorem te_gt (hL : L ≤ 700) {p : Nat} (h : kd T L p ≠ 0) : p < te T L p := by
  have hp := kd_lt h
  unfold te
  split
  · omega
  · have hk : isK T L (kd T L p) p = true := by unfold isK; simp [hp]
    have : skp (isK T L (kd T L p)) 1000 p = skp (isK T L (kd T L p)) 999 (p + 1) := by
      show (if isK T L (kd T L p) p then _ else _) = _
      rw [hk]; rfl
    rw [this]
    have := skp_ge (isK T L (kd T L p)) 999 (p + 1)
    omega
theorem te_ge {p : Nat} : p ≤ te T L p := by
  unfold te
  split
  · omega
  · exact skp_ge _ _ _
/-- the class's token is the one at p -/
def TK (T : FS) (L p : Nat) (ρ : MS) : Prop := ρ 8 0 = nI p ∧ ρ 7 0 = kd T L p ∧ ρ 9 0 = nI (te T L p) ∧ ρ 10 0 = nm T L p
theorem c_nextT {F : Nat} {β : FS} {τ ρ : MS} {e : Nat} (hF : 5000 ≤ F) (hB : BT β T L) (h4 : ρ 4 0 = nI L) (h9 : ρ 9 0 = nI e) (he : e ≤ L) : ok (mX1_nextToken F β τ ρ) (fun ρ' => TK T L (sk T L e) ρ' ∧ ∀ q, q < 7 → ρ' q = ρ q) := by
  have hL := hB.1
  have hsl := sk_le (T := T) he
  unfold mX1_nextToken
  rw [ob1_e]
  obtain ⟨ρ1, l1, l2, l3⟩ := ok_scan (f := fun st => mX1_nextToken_L8 F β τ st) (isS T L) (fun i ρ' => ρ' 8 0 = nI i ∧ i ≤ L ∧ ∀ q, q ≠ 8 → ρ' q = ρ q) (Q := fun ρ' => ρ' 8 0 = nI (sk T L e) ∧ ∀ q, q ≠ 8 → ρ' q = ρ q) (fun i ρ' hR hP => by
    obtain ⟨r1, r2, r3⟩ := hR
    have hi := isS_lt hP
    show ok (mX1_nextToken_L8 F β τ ρ') _
    unfold mX1_nextToken_L8
    rw [r1, show ρ' 4 0 = nI L from by rw [r3 4 (by decide)]; exact h4, if_neg (nle (by omega) (by omega) hi), c_kind hB (by rw [r3 4 (by decide)]; exact h4) (by omega), ob1_e, if_pos (kd_4.mpr hP), ob1_e, cnd_T, ob1_e]
    exact ok_some ⟨_, rfl, by rw [pf_at, if_pos rfl, nI_s], hi, fun q hq => by funext x; rw [pf_n _ _ _ _ _ hq, r3 q hq]⟩) 1000 e F (pf ρ 8 (ρ 9 0)) (by omega) ⟨by rw [pf_at, if_pos rfl]; exact h9, he, fun q hq => by funext x; rw [pf_n _ _ _ _ _ hq]⟩ (sk_out hL e) (fun ρ' hR => by
    obtain ⟨r1, r2, r3⟩ := hR
    show ok (mX1_nextToken_L8 F β τ ρ') _
    have r1 : ρ' 8 0 = nI (sk T L e) := r1
    unfold mX1_nextToken_L8
    rw [r1, show ρ' 4 0 = nI L from by rw [r3 4 (by decide)]; exact h4]
    by_cases q : sk T L e < L
    · rw [if_neg (nle (by omega) (by omega) q), c_kind hB (by rw [r3 4 (by decide)]; exact h4) (by omega), ob1_e, if_neg (fun q2 => by have := kd_4.mp q2; rw [sk_out hL e] at this; cases this), ob1_e, cnd_F]
      exact ok_some ⟨_, rfl, r1, r3⟩
    · rw [if_pos ((nI_leI (by omega) (by omega)).mpr (by omega)), ob1_e, cnd_F]
      exact ok_some ⟨_, rfl, r1, r3⟩)
  rw [l1, ob1_e, l2, c_kind hB (by rw [l3 4 (by decide)]; exact h4) (by omega), ob1_e, ob1_e, ob1_e, ob1_e]
  generalize sk T L e = p at l2 hsl ⊢
  have e7 : pf (pf (pf ρ1 7 (kd T L p)) 10 0) 9 (pf (pf ρ1 7 (kd T L p)) 10 0 8 0) 7 0 = kd T L p := by rw [pf_n _ _ _ _ _ (by decide), pf_n _ _ _ _ _ (by decide), pf_at, if_pos rfl]
  have e8 : pf (pf ρ1 7 (kd T L p)) 10 0 8 0 = nI p := by rw [pf_n _ _ _ _ _ (by decide), pf_n _ _ _ _ _ (by decide)]; exact l2
  rw [e8] at e7
  rw [e8]
  have hlow : ∀ q, q < 7 → pf (pf (pf ρ1 7 (kd T L p)) 10 0) 9 (nI p) q = ρ q := fun q hq => by
    funext x
    rw [pf_n _ _ _ _ _ (by omega), pf_n _ _ _ _ _ (by omega), pf_n _ _ _ _ _ (by omega), l3 q (by omega)]
  rw [e7]
  have ecnd : (if kd T L p = (3 : Int32) then some true else (if kd T L p = (5 : Int32) then some true else some false)) = some (decide (kd T L p = 3 ∨ kd T L p = 5)) := by
    by_cases q : kd T L p = 3 <;> by_cases q2 : kd T L p = 5 <;> simp [q, q2]
  rw [ecnd, ob1_e]
  by_cases hs : kd T L p = 3 ∨ kd T L p = 5
  · rw [show decide (kd T L p = 3 ∨ kd T L p = 5) = true from decide_eq_true hs, cnd_T, ob1_e]
    refine ok_some ⟨⟨by rw [pf_n _ _ _ _ _ (by decide), pf_n _ _ _ _ _ (by decide)]; exact e8, by rw [pf_n _ _ _ _ _ (by decide)]; exact e7, ?_, ?_⟩, fun q hq => by funext x; rw [pf_n _ _ _ _ _ (by omega), hlow q hq]⟩
    · rw [pf_at, if_pos rfl, pf_at, if_pos rfl, nI_s]
      unfold te
      rw [if_pos hs]
    · rw [pf_n _ _ _ _ _ (by decide), pf_n _ _ _ _ _ (by decide), pf_at, if_pos rfl]
      unfold nm
      rw [if_neg]
      rcases hs with q | q <;> rw [q] <;> decide
  · rw [show decide (kd T L p = 3 ∨ kd T L p = 5) = false from decide_eq_false hs, cnd_F]
    have ete : te T L p = skp (isK T L (kd T L p)) 1000 p := by unfold te; rw [if_neg hs]
    obtain ⟨ρ3, m1, m2, m3, m4⟩ := ok_scan (f := fun st => mX1_nextToken_L96 F β τ st) (isK T L (kd T L p)) (fun i ρ' => p ≤ i ∧ i ≤ L ∧ ρ' 9 0 = nI i ∧ ρ' 10 0 = (if kd T L p = 1 then nb T p i else 0) ∧ ρ' 8 0 = nI p ∧ ρ' 7 0 = kd T L p ∧ ∀ q, q < 7 → ρ' q = ρ q) (Q := fun ρ' => ρ' 9 0 = nI (te T L p) ∧ ρ' 10 0 = nm T L p ∧ ρ' 8 0 = nI p ∧ ρ' 7 0 = kd T L p ∧ ∀ q, q < 7 → ρ' q = ρ q) (fun i ρ' hR hP => by
      obtain ⟨r0, r1, r2, r3, r4, r5, r6⟩ := hR
      have hi := isK_lt hP
      have hk : kd T L i = kd T L p := by
        unfold isK at hP
        rw [Bool.and_eq_true, decide_eq_true_eq, decide_eq_true_eq] at hP
        exact hP.2
      show ok (mX1_nextToken_L96 F β τ ρ') _
      unfold mX1_nextToken_L96
      have h4' : ρ' 4 0 = nI L := by rw [r6 4 (by decide)]; exact h4
      rw [r2, h4', if_neg (nle (by omega) (by omega) hi), c_kind hB h4' (by omega), ob1_e, hk, r5, if_pos rfl, ob1_e, cnd_T]
      by_cases h1 : kd T L p = 1
      · have hdig : β i = T i := by
          rcases (hB.2 i hi).cases with ⟨q, -, -⟩ | ⟨a, b, -⟩
          · exact q
          · exfalso
            rw [h1] at hk
            unfold kd at hk
            rw [if_neg (by omega)] at hk
            have hd : isD (T i) = false := by
              unfold isD
              have : (57 : Int32) < T i := by rw [ltI, show (57 : Int32).toInt = 57 from rfl]; omega
              simp [this]
            rw [hd, if_neg (by decide)] at hk
            split at hk
            · exact absurd hk (by decide)
            · split at hk
              · exact absurd hk (by decide)
              · split at hk
                · exact absurd hk (by decide)
                · exact absurd hk (by decide)
        rw [if_pos h1, rd_at (by omega) (by decide), ob1_e, ob1_e, ob1_e, ob1_e, r3, if_pos h1, hdig]
        refine ok_some ⟨_, rfl, by omega, hi, ?_, ?_, ?_, ?_, fun q hq => ?_⟩
        · rw [pf_at, if_pos rfl, pf_n _ _ _ _ _ (by decide), r2, nI_s]
        · rw [pf_n _ _ _ _ _ (by decide), pf_at, if_pos rfl, if_pos h1, nb_s r0]; rfl
        · rw [pf_n _ _ _ _ _ (by decide), pf_n _ _ _ _ _ (by decide)]; exact r4
        · rw [pf_n _ _ _ _ _ (by decide), pf_n _ _ _ _ _ (by decide)]; exact r5
        · funext x; rw [pf_n _ _ _ _ _ (by omega), pf_n _ _ _ _ _ (by omega), r6 q hq]
      · rw [if_neg h1, ob1_e, ob1_e]
        refine ok_some ⟨_, rfl, by omega, hi, ?_, ?_, ?_, ?_, fun q hq => ?_⟩
        · rw [pf_at, if_pos rfl, r2, nI_s]
        · rw [pf_n _ _ _ _ _ (by decide), r3, if_neg h1, if_neg h1]
        · rw [pf_n _ _ _ _ _ (by decide)]; exact r4
        · rw [pf_n _ _ _ _ _ (by decide)]; exact r5
        · funext x; rw [pf_n _ _ _ _ _ (by omega), r6 q hq]) 1000 p F (pf (pf (pf ρ1 7 (kd T L p)) 10 0) 9 (nI p)) (by omega) ⟨Nat.le_refl _, hsl, by rw [pf_at, if_pos rfl], by rw [pf_n _ _ _ _ _ (by decide), pf_at, if_pos rfl]; unfold nb; rw [Nat.sub_self]; simp [fo], by rw [pf_n _ _ _ _ _ (by decide)]; exact e8, e7, hlow⟩ (skp_out (fun i h => isK_lt h) 1000 p (by omega)) (fun ρ' hR => by
      obtain ⟨r0, r1, r2, r3, r4, r5, r6⟩ := hR
      rw [← ete] at r0 r1 r2 r3
      show ok (mX1_nextToken_L96 F β τ ρ') _
      unfold mX1_nextToken_L96
      have h4' : ρ' 4 0 = nI L := by rw [r6 4 (by decide)]; exact h4
      have hq : ρ' 10 0 = nm T L p := by rw [r3]; rfl
      rw [r2, h4']
      by_cases q : te T L p < L
      · have hout := skp_out (P := isK T L (kd T L p)) (fun i h => isK_lt h) 1000 p (by omega)
        rw [← ete] at hout
        have hne : ¬ kd T L (te T L p) = ρ' 7 0 := fun q2 => by
          unfold isK at hout
          rw [r5] at q2
          rw [q2] at hout
          simp [q] at hout
        rw [if_neg (nle (by omega) (by omega) q), c_kind hB h4' (by omega), ob1_e, if_neg hne, ob1_e, cnd_F]
        exact ok_some ⟨_, rfl, r2, hq, r4, r5, r6⟩
      · rw [if_pos ((nI_leI (by omega) (by omega)).mpr (by omega)), ob1_e, cnd_F]
        exact ok_some ⟨_, rfl, r2, hq, r4, r5, r6⟩)
    rw [m1, ob1_e]
    exact ok_some ⟨⟨m4.1, m4.2.1, m2, m3⟩, m4.2.2⟩
end TO
