/-! pure: what the law's world tells -/
/-- how many of the n from a on -/
def ctN (P : Nat → Bool) : Nat → Nat → Nat
  | _, 0 => 0
  | a, n + 1 => (if P a then 1 else 0) + ctN P (a + 1) n
theorem ctN_le (P : Nat → Bool) : ∀ (n a : Nat), ctN P a n ≤ n := by
  intro n
  induction n with
  | zero => intro a; exact Nat.le_refl _
  | succ n ih =>
    intro a
    have := ih (a + 1)
    unfold ctN
    split <;> omega
theorem fo_ctN (P : Nat → Bool) : ∀ (n a c : Nat), fo (fun s (x : Int32) => x + b01 (P s)) a n (nI c) = nI (c + ctN P a n) := by
  intro n
  induction n with
  | zero => intro a c; rfl
  | succ n ih =>
    intro a c
    show fo (fun s (x : Int32) => x + b01 (P s)) (a + 1) n (nI c + b01 (P a)) = _
    have e : nI c + b01 (P a) = nI (c + if P a then 1 else 0) := by
      cases P a
      · simp [b01]
      · show nI c + 1 = _
        rw [nI_s]; rfl
    rw [e, ih (a + 1)]
    show _ = nI (c + ((if P a then 1 else 0) + ctN P (a + 1) n))
    rw [Nat.add_assoc]
theorem ctN_0 (P : Nat → Bool) : ∀ (n a : Nat), ctN P a n = 0 ↔ exB P a n = false := by
  intro n
  induction n with
  | zero => intro a; simp [ctN, exB]
  | succ n ih =>
    intro a
    unfold ctN exB
    cases h : P a
    · simp [ih]
    · simp
/-- two kinds make up a third just where nothing else is of it -/
theorem ctN_two (P Q R : Nat → Bool) (h1 : ∀ s, P s = true → R s = true ∧ Q s = false) (h2 : ∀ s, Q s = true → R s = true) : ∀ (n a : Nat), ctN P a n + ctN Q a n ≤ ctN R a n ∧ (ctN P a n + ctN Q a n = ctN R a n ↔ exB (fun s => R s && (!P s && !Q s)) a n = false) := by
  intro n
  induction n with
  | zero => intro a; simp [ctN, exB]
  | succ n ih =>
    intro a
    obtain ⟨i1, i2⟩ := ih (a + 1)
    have g1 := h1 a
    have g2 := h2 a
    unfold ctN exB
    cases hP : P a <;> cases hQ : Q a <;> cases hR : R a
    · simp only [Bool.false_eq_true, if_false, Bool.false_and, Bool.false_or]
      rw [← i2]
      refine ⟨by omega, by constructor <;> intro h <;> omega⟩
    · simp
      omega
    · rw [hQ, hR] at g2; exact absurd (g2 rfl) (by decide)
    · simp only [Bool.false_eq_true, if_false, if_true, Bool.true_and, Bool.not_true, Bool.not_false, Bool.false_or]
      rw [← i2]
      refine ⟨by omega, by constructor <;> intro h <;> omega⟩
    · rw [hP, hR] at g1; exact absurd (g1 rfl).1 (by decide)
    · simp only [Bool.false_eq_true, if_false, if_true, Bool.true_and, Bool.not_true, Bool.false_and, Bool.false_or]
      rw [← i2]
      refine ⟨by omega, by constructor <;> intro h <;> omega⟩
    · rw [hP, hQ] at g1; exact absurd (g1 rfl).2 (by decide)
    · rw [hP, hQ] at g1; exact absurd (g1 rfl).2 (by decide)
theorem ctN_sh (P : Nat → Bool) (c : Nat) : ∀ n a : Nat, ctN (fun k => P (c + k)) a n = ctN P (c + a) n := by
  intro n
  induction n with
  | zero => intro a; rfl
  | succ n ih =>
    intro a
    show (if P (c + a) then 1 else 0) + ctN (fun k => P (c + k)) (a + 1) n = (if P (c + a) then 1 else 0) + ctN P (c + a + 1) n
    rw [ih (a + 1)]
    rfl
theorem b01_or (a b : Bool) : b01 a ||| b01 b = b01 (a || b) := by cases a <;> cases b <;> decide
theorem fo_or (P : Nat → Bool) : ∀ (n a : Nat) (c : Bool), fo (fun s (x : Int32) => x ||| b01 (P s)) a n (b01 c) = b01 (c || exB P a n) := by
  intro n
  induction n with
  | zero => intro a c; simp [fo, exB]
  | succ n ih =>
    intro a c
    show fo (fun s (x : Int32) => x ||| b01 (P s)) (a + 1) n (b01 c ||| b01 (P a)) = _
    rw [b01_or, ih (a + 1), Bool.or_assoc]
    rfl
/-- the last one of all, upwards -/
theorem fo_lst (P : Nat → Bool) : ∀ n : Nat, fo (fun s (x : Int32) => if P s then nI s else x) 0 n (-1) = oI (lst P 0 n 0) := by
  intro n
  induction n with
  | zero => rfl
  | succ n ih =>
    have e : lst P 0 (n + 1) 0 = if P n = true then some n else lst P 0 n 0 := by
      show (if P (0 + n) = true then (if (0 : Nat) = 0 then some (0 + n) else lst P 0 n (0 - 1)) else lst P 0 n 0) = _
      rw [Nat.zero_add, if_pos rfl]
    rw [fo_end, Nat.zero_add, ih, e]
    by_cases h : P n = true
    · rw [if_pos h, if_pos h]; rfl
    · rw [if_neg h, if_neg h]
section LR
variable {τ σ ζ κ φ ψ : MS} {Φ Ψ : WS} {F s j i : Nat} {k p v : Int32} {Ns : PA} {N : Nat}
/-- the steps of a trip -/
def lT (τ σ ψ : MS) (j : Nat) : Prop := ∀ i, An τ j + i < En τ j → lS τ σ (ψ i) (An τ j + i)
theorem LW.lt (h : LW τ σ ζ κ Φ Ψ) (hj : j < Jn τ) : lT τ σ (Ψ j) j := h.2.2.2 j hj
theorem l_open (h : lJ τ σ φ j) : mX5_isOpen F N φ ψ = some (b01 (!ended σ j)) := by
  unfold mX5_isOpen ended b01
  rw [h.2.2.1]
  by_cases h3 : σ 5 j = 3 <;> by_cases h4 : σ 5 j = 4 <;> simp [h3, h4, cnd, ob1]
theorem ll_holds (hI : SI τ) (hJ : lJ τ σ φ j) (hT : lT τ σ ψ j) (hj : j < Jn τ) (hF : 5000 ≤ F) : mX5_holds F (En τ j - An τ j) φ ψ k = some (b01 (!ended σ j && hold τ σ j k)) := by
  have hA := hI.A hj
  have hN := hI.N.2
  have hl := loop_up (f := fun st : Int32 × Int32 => mX5_holds_L14 F (En τ j - An τ j) (nI (En τ j - An τ j)) k φ ψ st.1 st.2) (fun _ _ => True) (fun i x => x ||| b01 (hst τ σ k (An τ j + i))) (fun v => v) (En τ j - An τ j) (fun i x hi _ => ⟨by
    show mX5_holds_L14 F (En τ j - An τ j) (nI (En τ j - An τ j)) k φ ψ (nI i) x = _
    obtain ⟨a1, a2, a3, a4, a5, -⟩ := hT i (by omega)
    unfold mX5_holds_L14 hst tkb
    rw [if_neg (nle (by omega) (by omega) hi), hixn_at hi (by omega), ob1_e, rq_1, ob1_e, rq_4, ob1_e, ob1_e, a2, a5, nI_s]
    by_cases h5 : τ 12 (An τ j + i) = k <;> by_cases h6 : σ 9 (An τ j + i) = 2 <;> by_cases h7 : σ 9 (An τ j + i) = 3 <;> simp [h5, h6, h7, cnd, ob1, b01], trivial⟩) (fun x _ => by
    show mX5_holds_L14 F (En τ j - An τ j) (nI (En τ j - An τ j)) k φ ψ (nI (En τ j - An τ j)) x = _
    unfold mX5_holds_L14
    rw [if_pos (Int32.le_refl _)]) (En τ j - An τ j) 0 F 0 (by omega) (by omega) trivial
  have e1 := fo_or (fun i => hst τ σ k (An τ j + i)) (En τ j - An τ j) 0 false
  rw [exB_sh, Nat.add_zero] at e1
  have e2 : fo (fun i (x : Int32) => x ||| b01 (hst τ σ k (An τ j + i))) 0 (En τ j - An τ j) 0 = b01 (hold τ σ j k) := e1.trans (by unfold hold; simp)
  unfold mX5_holds
  rw [show ((0 : Int32), (0 : Int32)) = (nI 0, (0 : Int32)) from rfl, hl, e2, ob1_e, l_open hJ]
  cases hold τ σ j k <;> cases ended σ j <;> rfl
theorem l_holders (hI : SI τ) (hN : NR τ Ns) (h : LW τ σ ζ κ Φ Ψ) (hF : 5000 ≤ F) : mX6_holders F (Sn τ) (Jn τ) Ns ζ κ Φ Ψ k = some (holders τ σ k) := by
  have hJ := hI.J
  have hl := loop_up (f := fun st : Int32 × Int32 => mX6_holders_L14 F (Sn τ) (Jn τ) Ns (nI (Jn τ)) k ζ κ Φ Ψ st.1 st.2) (fun _ _ => True) (fun j v => v + b01 (!ended σ j && hold τ σ j k)) (fun v => v) (Jn τ) (fun j v hj _ => ⟨by
    show mX6_holders_L14 F (Sn τ) (Jn τ) Ns (nI (Jn τ)) k ζ κ Φ Ψ (nI j) v = _
    unfold mX6_holders_L14
    rw [if_neg (nle (by omega) (by omega) hj), hixn_at hj (by omega), ob1_e, hN j hj, ll_holds hI (h.lj hj) (h.lt hj) hj hF, ob1_e]
    cases (!ended σ j && hold τ σ j k) <;> simp [ob1, nI_s, b01], trivial⟩) (fun v _ => by
    show mX6_holders_L14 F (Sn τ) (Jn τ) Ns (nI (Jn τ)) k ζ κ Φ Ψ (nI (Jn τ)) v = _
    unfold mX6_holders_L14
    rw [if_pos (Int32.le_refl _)]) (Jn τ) 0 F 0 (by omega) (by omega) trivial
  unfold mX6_holders
  rw [i0, show ((nI 0, nI 0) : Int32 × Int32) = (nI 0, 0) from rfl, hl]
  rfl
theorem l_count (hI : SI τ) (hT : lT τ σ ψ j) (hj : j < Jn τ) (hF : 5000 ≤ F) : mX5_count F (En τ j - An τ j) φ ψ p v = some (nI (ctN (fun s => decide (τ 11 s = p) && decide (σ 9 s = v)) (An τ j) (En τ j - An τ j))) := by
  have hA := hI.A hj
  have hN := hI.N.2
  have hl := loop_up (f := fun st : Int32 × Int32 => mX5_count_L16 F (En τ j - An τ j) (nI (En τ j - An τ j)) p v φ ψ st.1 st.2) (fun _ _ => True) (fun i x => x + b01 ((fun s => decide (τ 11 s = p) && decide (σ 9 s = v)) (An τ j + i))) (fun v => v) (En τ j - An τ j) (fun i x hi _ => ⟨by
    show mX5_count_L16 F (En τ j - An τ j) (nI (En τ j - An τ j)) p v φ ψ (nI i) x = _
    obtain ⟨a1, a2, a3, a4, a5, -⟩ := hT i (by omega)
    unfold mX5_count_L16
    rw [if_neg (nle (by omega) (by omega) hi), hixn_at hi (by omega), ob1_e, rq_0, ob1_e, rq_4, ob1_e, a1, a5, nI_s]
    by_cases h5 : τ 11 (An τ j + i) = p <;> by_cases h6 : σ 9 (An τ j + i) = v <;> simp [h5, h6, cnd, ob1, b01], trivial⟩) (fun x _ => by
    show mX5_count_L16 F (En τ j - An τ j) (nI (En τ j - An τ j)) p v φ ψ (nI (En τ j - An τ j)) x = _
    unfold mX5_count_L16
    rw [if_pos (Int32.le_refl _)]) (En τ j - An τ j) 0 F 0 (by omega) (by omega) trivial
  have e1 := fo_ctN (fun i => (fun s => decide (τ 11 s = p) && decide (σ 9 s = v)) (An τ j + i)) (En τ j - An τ j) 0 0
  rw [ctN_sh (fun s => decide (τ 11 s = p) && decide (σ 9 s = v)), Nat.add_zero, Nat.zero_add] at e1
  unfold mX5_count
  rw [i0, show ((nI 0, nI 0) : Int32 × Int32) = (nI 0, 0) from rfl, hl, ob1_e]
  exact congrArg some e1
theorem l_size (hI : SI τ) (hT : lT τ σ ψ j) (hj : j < Jn τ) (hF : 5000 ≤ F) : mX5_size F (En τ j - An τ j) φ ψ p = some (nI (ctN (fun s => decide (τ 11 s = p)) (An τ j) (En τ j - An τ j))) := by
  have hA := hI.A hj
  have hN := hI.N.2
  have hl := loop_up (f := fun st : Int32 × Int32 => mX5_size_L14 F (En τ j - An τ j) (nI (En τ j - An τ j)) p φ ψ st.1 st.2) (fun _ _ => True) (fun i x => x + b01 ((fun s => decide (τ 11 s = p)) (An τ j + i))) (fun v => v) (En τ j - An τ j) (fun i x hi _ => ⟨by
    show mX5_size_L14 F (En τ j - An τ j) (nI (En τ j - An τ j)) p φ ψ (nI i) x = _
    obtain ⟨a1, a2, a3, a4, a5, -⟩ := hT i (by omega)
    unfold mX5_size_L14
    rw [if_neg (nle (by omega) (by omega) hi), hixn_at hi (by omega), ob1_e, rq_0, ob1_e, a1, nI_s]
    by_cases h5 : τ 11 (An τ j + i) = p <;> simp [h5, ob1, b01], trivial⟩) (fun x _ => by
    show mX5_size_L14 F (En τ j - An τ j) (nI (En τ j - An τ j)) p φ ψ (nI (En τ j - An τ j)) x = _
    unfold mX5_size_L14
    rw [if_pos (Int32.le_refl _)]) (En τ j - An τ j) 0 F 0 (by omega) (by omega) trivial
  have e1 := fo_ctN (fun i => (fun s => decide (τ 11 s = p)) (An τ j + i)) (En τ j - An τ j) 0 0
  rw [ctN_sh (fun s => decide (τ 11 s = p)), Nat.add_zero, Nat.zero_add] at e1
  unfold mX5_size
  rw [i0, show ((nI 0, nI 0) : Int32 × Int32) = (nI 0, 0) from rfl, hl, ob1_e]
  exact congrArg some e1
theorem l_fin (hI : SI τ) (hT : lT τ σ ψ j) (hj : j < Jn τ) (hF : 5000 ≤ F) : mX5_isFinished F (En τ j - An τ j) φ ψ p = some (b01 (overP τ σ j p)) := by
  have hA := hI.A hj
  have hN := hI.N.2
  unfold mX5_isFinished
  rw [l_count hI hT hj hF, ob1_e, l_count hI hT hj hF, ob1_e, l_size hI hT hj hF, ob1_e, nI_a]
  obtain ⟨c1, c2⟩ := ctN_two (fun s => decide (τ 11 s = p) && decide (σ 9 s = 3)) (fun s => decide (τ 11 s = p) && decide (σ 9 s = 6)) (fun s => decide (τ 11 s = p)) (fun s h => by
    rw [Bool.and_eq_true, decide_eq_true_eq, decide_eq_true_eq] at h
    refine ⟨by simp [h.1], ?_⟩
    rw [h.2]
    simp) (fun s h => by
    rw [Bool.and_eq_true] at h
    exact h.1) (En τ j - An τ j) (An τ j)
  have l3 := ctN_le (fun s => decide (τ 11 s = p)) (En τ j - An τ j) (An τ j)
  have e : exB (fun s => decide (τ 11 s = p) && (!(decide (τ 11 s = p) && decide (σ 9 s = 3)) && !(decide (τ 11 s = p) && decide (σ 9 s = 6)))) (An τ j) (En τ j - An τ j) = exB (fun s => decide (τ 11 s = p) && opn σ s) (An τ j) (En τ j - An τ j) := exB_congr (fun s _ _ => by
    unfold opn
    by_cases h1 : τ 11 s = p <;> by_cases h2 : σ 9 s = 3 <;> by_cases h3 : σ 9 s = 6 <;> simp [h1, h2, h3])
  rw [e] at c2
  unfold overP
  cases hb : exB (fun s => decide (τ 11 s = p) && opn σ s) (An τ j) (En τ j - An τ j) with
  | false => rw [c2.mpr hb, if_pos rfl]; rfl
  | true => rw [if_neg (fun q => by rw [nI_i (by omega) (by omega)] at q; rw [c2.mp q] at hb; cases hb)]; rfl
theorem l_last (hI : SI τ) (hT : lT τ σ ψ j) (hj : j < Jn τ) (hF : 5000 ≤ F) : mX5_last F (En τ j - An τ j) φ ψ = some (oI ((lsd τ σ j 0).map (fun s => s - An τ j))) := by
  have hA := hI.A hj
  have hN := hI.N.2
  have hl := loop_up (f := fun st : Int32 × Int32 => mX5_last_L4 F (En τ j - An τ j) φ ψ st.1 st.2) (fun _ _ => True) (fun i x => if (fun s => decide (σ 9 s = 3)) (An τ j + i) then nI i else x) (fun v => v) (En τ j - An τ j) (fun i x hi _ => ⟨by
    show mX5_last_L4 F (En τ j - An τ j) φ ψ (nI i) x = _
    obtain ⟨a1, a2, a3, a4, a5, -⟩ := hT i (by omega)
    unfold mX5_last_L4
    rw [if_neg (nle (by omega) (by omega) hi), hixn_at hi (by omega), ob1_e, rq_4, ob1_e, a5, nI_s]
    by_cases h5 : σ 9 (An τ j + i) = 3 <;> simp [h5, ob1], trivial⟩) (fun x _ => by
    show mX5_last_L4 F (En τ j - An τ j) φ ψ (nI (En τ j - An τ j)) x = _
    unfold mX5_last_L4
    rw [if_pos (Int32.le_refl _)]) (En τ j - An τ j) 0 F (-1) (by omega) (by omega) trivial
  have e1 := fo_lst (fun i => (fun s => decide (σ 9 s = 3)) (An τ j + i)) (En τ j - An τ j)
  have e2 := lsd_sh τ σ j 0
  unfold mX5_last
  rw [i0, hl, ob1_e]
  exact congrArg some (e1.trans (congrArg oI e2))
theorem l_owes (hI : SI τ) (hJ : lJ τ σ φ j) (hT : lT τ σ ψ j) (hj : j < Jn τ) (hF : 5000 ≤ F) : mX5_owes F (En τ j - An τ j) φ ψ = some (owes τ σ j) := by
  have hA := hI.A hj
  have hN := hI.N.2
  have hl := loop_up (f := fun st : Int32 × Int32 => mX5_owes_L13 F (En τ j - An τ j) (nI (En τ j - An τ j)) φ ψ st.1 st.2) (fun _ _ => True) (fun i x => x + if σ 5 j = 2 ∨ σ 5 j = 5 then gOw τ σ (An τ j + i) else 0) (fun v => v) (En τ j - An τ j) (fun i x hi _ => ⟨by
    show mX5_owes_L13 F (En τ j - An τ j) (nI (En τ j - An τ j)) φ ψ (nI i) x = _
    obtain ⟨a1, a2, a3, a4, a5, -⟩ := hT i (by omega)
    unfold mX5_owes_L13 gOw
    rw [if_neg (nle (by omega) (by omega) hi), hixn_at hi (by omega), ob1_e, rq_4, ob1_e, rq_2, ob1_e, a5, a3, hJ.2.2.1, nI_s]
    by_cases h5 : σ 9 (An τ j + i) = 3 <;> by_cases h6 : σ 5 j = 2 <;> by_cases h7 : σ 5 j = 5 <;> simp [h5, h6, h7, cnd, ob1], trivial⟩) (fun x _ => by
    show mX5_owes_L13 F (En τ j - An τ j) (nI (En τ j - An τ j)) φ ψ (nI (En τ j - An τ j)) x = _
    unfold mX5_owes_L13
    rw [if_pos (Int32.le_refl _)]) (En τ j - An τ j) 0 F 0 (by omega) (by omega) trivial
  unfold mX5_owes
  rw [i0, show ((nI 0, nI 0) : Int32 × Int32) = (nI 0, 0) from rfl, hl, ob1_e]
  unfold owes sj
  by_cases q : σ 5 j = 2 ∨ σ 5 j = 5
  · have := fo_sh (fun s v => v + gOw τ σ s) (An τ j) (En τ j - An τ j) 0 0
    rw [Nat.add_zero] at this
    rw [if_pos q, ← this]
    exact congrArg some (fo_congr (fun s x _ _ => by rw [if_pos q]))
  · rw [if_neg q]
    exact congrArg some (fo_id (fun s _ _ => by rw [if_neg q]; simp))
theorem l_jin (hI : SI τ) (h : LW τ σ ζ κ Φ Ψ) (hF : 5000 ≤ F) : mX6_count F (Sn τ) (Jn τ) Ns ζ κ Φ Ψ p = some (jin τ σ p) := by
  have hJ := hI.J
  have hl := loop_up (f := fun st : Int32 × Int32 => mX6_count_L14 F (Sn τ) (Jn τ) Ns (nI (Jn τ)) p ζ κ Φ Ψ st.1 st.2) (fun _ _ => True) (fun j v => v + b01 (decide (σ 5 j = p))) (fun v => v) (Jn τ) (fun j v hj _ => ⟨by
    show mX6_count_L14 F (Sn τ) (Jn τ) Ns (nI (Jn τ)) p ζ κ Φ Ψ (nI j) v = _
    unfold mX6_count_L14
    rw [if_neg (nle (by omega) (by omega) hj), hixn_at hj (by omega), ob1_e, (h.lj hj).2.2.1]
    by_cases q : σ 5 j = p <;> simp [q, ob1, nI_s, b01], trivial⟩) (fun v _ => by
    show mX6_count_L14 F (Sn τ) (Jn τ) Ns (nI (Jn τ)) p ζ κ Φ Ψ (nI (Jn τ)) v = _
    unfold mX6_count_L14
    rw [if_pos (Int32.le_refl _)]) (Jn τ) 0 F 0 (by omega) (by omega) trivial
  unfold mX6_count
  rw [i0, show ((nI 0, nI 0) : Int32 × Int32) = (nI 0, 0) from rfl, hl]
  rfl
end LR
