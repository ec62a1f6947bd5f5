/-! pure: numbers, bounded searches, counted loops -/
theorem nI_a (a b : Nat) : nI a + nI b = nI (a + b) := by simp [nI]
theorem nI_m (a b : Nat) : nI a * nI b = nI (a * b) := by simp [nI]
theorem nI_d {a b : Nat} (h : b ≤ a) : nI a - nI b = nI (a - b) := by
  obtain ⟨c, rfl⟩ : ∃ c, a = b + c := ⟨a - b, by omega⟩
  rw [← nI_a, Nat.add_sub_cancel_left]
  have : ∀ x y : Int32, x + y - x = y := fun x y => by rw [Int32.add_comm, Int32.add_sub_cancel]
  exact this _ _
theorem nI_i {a b : Nat} (ha : a < 2 ^ 31) (hb : b < 2 ^ 31) : nI a = nI b ↔ a = b := by
  constructor
  · intro h
    have := congrArg Int32.toInt h
    rw [nI_toInt ha, nI_toInt hb] at this
    omega
  · intro h; rw [h]
def nv (x : Int32) : Nat := x.toInt.toNat
theorem nv_nI {n : Nat} (h : n < 2 ^ 31) : nv (nI n) = n := by unfold nv; rw [nI_toInt h]; rfl
theorem nI_nv {x : Int32} (h : 0 ≤ x.toInt) : x = nI (nv x) := by
  apply Int32.toInt_inj.mp
  have := Int32.toInt_lt x
  unfold nv
  rw [nI_toInt (by omega)]
  omega
/-- between a and b -/
def bd (x : Int32) (a b : Int) : Prop := a ≤ x.toInt ∧ x.toInt ≤ b
theorem bd_nI {n : Nat} {a b : Int} (h : n < 2 ^ 31) (h1 : a ≤ n) (h2 : (n : Int) ≤ b) : bd (nI n) a b := by unfold bd; rw [nI_toInt h]; exact ⟨h1, h2⟩
theorem bd.nI {x : Int32} {a b : Int} (h : bd x a b) (ha : 0 ≤ a) : x = nI (nv x) ∧ a ≤ (nv x : Int) ∧ (nv x : Int) ≤ b := by
  obtain ⟨h1, h2⟩ := h
  refine ⟨nI_nv (by omega), ?_, ?_⟩ <;> unfold nv <;> omega
theorem bd.wide {x : Int32} {a b c d : Int} (h : bd x a b) (h1 : c ≤ a) (h2 : b ≤ d) : bd x c d := ⟨by have := h.1; omega, by have := h.2; omega⟩
theorem aI {x y : Int32} (h1 : -2147483648 ≤ x.toInt + y.toInt) (h2 : x.toInt + y.toInt < 2147483648) : (x + y).toInt = x.toInt + y.toInt := by
  rw [Int32.toInt_add, Int.bmod_def]; omega
theorem sI {x y : Int32} (h1 : -2147483648 ≤ x.toInt - y.toInt) (h2 : x.toInt - y.toInt < 2147483648) : (x - y).toInt = x.toInt - y.toInt := by
  rw [Int32.toInt_sub, Int.bmod_def]; omega
theorem leI (x y : Int32) : (x ≤ y) ↔ x.toInt ≤ y.toInt := Int32.le_iff_toInt_le
theorem ltI (x y : Int32) : (x < y) ↔ x.toInt < y.toInt := Int32.lt_iff_toInt_lt
theorem eqI (x y : Int32) : (x = y) ↔ x.toInt = y.toInt := Int32.toInt_inj.symm
theorem nI_m1 {m : Nat} (h : 1 ≤ m) : nI m - 1 = nI (m - 1) := nI_p h
theorem nI_m1' {m : Nat} (h : 1 ≤ m) : nI m + (-1) = nI (m - 1) := by
  rw [← nI_m1 h]
  have : ∀ x : Int32, x + (-1) = x - 1 := fun x => by rw [Int32.sub_eq_add_neg]
  exact this _
/-- is there one of the n from a on -/
def exB (P : Nat → Bool) : Nat → Nat → Bool
  | _, 0 => false
  | a, n + 1 => P a || exB P (a + 1) n
theorem exB_iff (P : Nat → Bool) : ∀ (n a : Nat), exB P a n = true ↔ ∃ s, a ≤ s ∧ s < a + n ∧ P s = true := by
  intro n
  induction n with
  | zero => intro a; simp only [exB]; constructor
            · intro h; cases h
            · rintro ⟨s, h1, h2, -⟩; omega
  | succ n ih =>
    intro a
    unfold exB
    rw [Bool.or_eq_true, ih]
    constructor
    · rintro (h | ⟨s, h1, h2, h3⟩)
      · exact ⟨a, by omega, by omega, h⟩
      · exact ⟨s, by omega, by omega, h3⟩
    · rintro ⟨s, h1, h2, h3⟩
      by_cases hs : s = a
      · subst hs; exact Or.inl h3
      · exact Or.inr ⟨s, by omega, by omega, h3⟩
theorem exB_F (P : Nat → Bool) (n a : Nat) : exB P a n = false ↔ ∀ s, a ≤ s → s < a + n → P s = false := by
  rw [← Bool.not_eq_true, exB_iff]
  constructor
  · intro h s h1 h2
    rw [← Bool.not_eq_true]
    exact fun h3 => h ⟨s, h1, h2, h3⟩
  · rintro h ⟨s, h1, h2, h3⟩
    rw [h s h1 h2] at h3; cases h3
theorem exB_congr {P Q : Nat → Bool} {n a : Nat} (h : ∀ s, a ≤ s → s < a + n → P s = Q s) : exB P a n = exB Q a n := by
  induction n generalizing a with
  | zero => rfl
  | succ n ih =>
    unfold exB
    rw [h a (by omega) (by omega), ih (fun s h1 h2 => h s (by omega) (by omega))]
theorem exB_sh (P : Nat → Bool) (c : Nat) : ∀ n a : Nat, exB (fun k => P (c + k)) a n = exB P (c + a) n := by
  intro n
  induction n with
  | zero => intro a; rfl
  | succ n ih =>
    intro a
    unfold exB
    rw [ih (a + 1)]
    rfl
/-- the last of the n from a on, but p of them -/
def lst (P : Nat → Bool) (a : Nat) : Nat → Nat → Option Nat
  | 0, _ => none
  | n + 1, p => if P (a + n) then (if p = 0 then some (a + n) else lst P a n (p - 1)) else lst P a n p
theorem lst_some {P : Nat → Bool} {a : Nat} : ∀ {n p s : Nat}, lst P a n p = some s → a ≤ s ∧ s < a + n ∧ P s = true := by
  intro n
  induction n with
  | zero => intro p s h; cases h
  | succ n ih =>
    intro p s h
    unfold lst at h
    by_cases hP : P (a + n) = true
    · rw [if_pos hP] at h
      by_cases hp : p = 0
      · rw [if_pos hp] at h; cases h; exact ⟨by omega, by omega, hP⟩
      · rw [if_neg hp] at h; have := ih h; exact ⟨this.1, by omega, this.2.2⟩
    · rw [if_neg hP] at h; have := ih h; exact ⟨this.1, by omega, this.2.2⟩
theorem lst_none {P : Nat → Bool} {a : Nat} : ∀ {n : Nat}, lst P a n 0 = none → ∀ s, a ≤ s → s < a + n → P s = false := by
  intro n
  induction n with
  | zero => intro h s h1 h2; omega
  | succ n ih =>
    intro h s h1 h2
    unfold lst at h
    by_cases hP : P (a + n) = true
    · rw [if_pos hP, if_pos rfl] at h; cases h
    · rw [if_neg hP] at h
      by_cases hs : s = a + n
      · subst hs; simpa using hP
      · exact ih h s h1 (by omega)
theorem lst_sh (P : Nat → Bool) (c a : Nat) : ∀ n p : Nat, lst (fun k => P (c + k)) a n p = (lst P (c + a) n p).map (fun s => s - c) := by
  intro n
  induction n with
  | zero => intro p; rfl
  | succ n ih =>
    intro p
    simp only [lst, ← Nat.add_assoc]
    by_cases hP : P (c + a + n) = true
    · rw [if_pos hP, if_pos hP]
      by_cases hp : p = 0
      · rw [if_pos hp, if_pos hp]; simp; omega
      · rw [if_neg hp, if_neg hp]; exact ih _
    · rw [if_neg hP, if_neg hP]; exact ih _
theorem lst_congr {P Q : Nat → Bool} {a : Nat} : ∀ {n p : Nat}, (∀ s, a ≤ s → s < a + n → P s = Q s) → lst P a n p = lst Q a n p := by
  intro n
  induction n with
  | zero => intro p _; rfl
  | succ n ih =>
    intro p h
    unfold lst
    rw [h (a + n) (by omega) (by omega), ih (fun s h1 h2 => h s h1 (by omega)), ih (fun s h1 h2 => h s h1 (by omega))]
theorem fo_end {α : Type} (g : Nat → α → α) : ∀ (n a : Nat) (x : α), fo g a (n + 1) x = g (a + n) (fo g a n x) := by
  intro n
  induction n with
  | zero => intro a x; rfl
  | succ n ih =>
    intro a x
    show fo g (a + 1) (n + 1) (g a x) = _
    rw [ih (a + 1) (g a x), show a + 1 + n = a + (n + 1) by omega]
    rfl
theorem fo_sh {α : Type} (g : Nat → α → α) (c : Nat) : ∀ (n a : Nat) (x : α), fo (fun k => g (c + k)) a n x = fo g (c + a) n x := by
  intro n
  induction n with
  | zero => intro a x; rfl
  | succ n ih => intro a x; exact ih (a + 1) _
theorem fo_congr {α : Type} {g h : Nat → α → α} : ∀ {n a : Nat} {x : α}, (∀ s x, a ≤ s → s < a + n → g s x = h s x) → fo g a n x = fo h a n x := by
  intro n
  induction n with
  | zero => intro a x _; rfl
  | succ n ih =>
    intro a x hg
    show fo g (a + 1) n (g a x) = fo h (a + 1) n (h a x)
    rw [hg a x (by omega) (by omega)]
    exact ih (fun s x h1 h2 => hg s x (by omega) (by omega))
theorem fo_id {α : Type} {g : Nat → α → α} : ∀ {n a : Nat} {x : α}, (∀ s, a ≤ s → s < a + n → g s x = x) → fo g a n x = x := by
  intro n
  induction n with
  | zero => intro a x _; rfl
  | succ n ih =>
    intro a x hg
    show fo g (a + 1) n (g a x) = x
    rw [hg a (by omega) (by omega)]
    exact ih (fun s h1 h2 => hg s (by omega) (by omega))
theorem fo_ind {α : Type} {g : Nat → α → α} (R : Nat → α → Prop) : ∀ {n a : Nat} {x : α}, R a x → (∀ s x, a ≤ s → s < a + n → R s x → R (s + 1) (g s x)) → R (a + n) (fo g a n x) := by
  intro n
  induction n with
  | zero => intro a x h _; exact h
  | succ n ih =>
    intro a x h hs
    have := ih (a := a + 1) (x := g a x) (hs a x (by omega) (by omega) h) (fun s x h1 h2 => hs s x (by omega) (by omega))
    rw [show a + (n + 1) = a + 1 + n by omega]
    exact this
theorem fo_cat {α : Type} (g : Nat → α → α) : ∀ (n m a : Nat) (x : α), fo g a (n + m) x = fo g (a + n) m (fo g a n x) := by
  intro n
  induction n with
  | zero => intro m a x; rw [Nat.zero_add]; rfl
  | succ n ih =>
    intro m a x
    rw [show n + 1 + m = (n + m) + 1 by omega]
    show fo g (a + 1) (n + m) (g a x) = fo g (a + (n + 1)) m (fo g (a + 1) n (g a x))
    rw [ih, show a + 1 + n = a + (n + 1) by omega]
/-- a search upwards -/
theorem loop_ex {ρ : Type} {f : Int32 → Option ((ρ ⊕ Unit) ⊕ Int32)} {P : Nat → Bool} {r : ρ} {lo b : Nat} (hs : ∀ k, lo ≤ k → k < b → f (nI k) = some (if P k then .inl (.inl r) else .inr (nI (k + 1)))) (hx : f (nI b) = some (.inl (.inr ()))) : ∀ (n a fu : Nat), lo ≤ a → a + n = b → n < fu → loopM f fu (nI a) = some (if exB P a n then .inl r else .inr ()) := by
  intro n
  induction n with
  | zero =>
    intro a fu h1 h2 h3
    obtain ⟨fu, rfl⟩ : ∃ k, fu = k + 1 := ⟨fu - 1, by omega⟩
    obtain rfl : a = b := by omega
    rw [loopM_l hx]; rfl
  | succ n ih =>
    intro a fu h1 h2 h3
    obtain ⟨fu, rfl⟩ : ∃ k, fu = k + 1 := ⟨fu - 1, by omega⟩
    have hs1 := hs a h1 (by omega)
    unfold exB
    by_cases hP : P a = true
    · rw [if_pos hP] at hs1
      rw [loopM_l hs1, hP]; rfl
    · rw [if_neg hP] at hs1
      rw [loopM_r hs1, ih (a + 1) fu (by omega) (by omega) (by omega)]
      simp [hP]
/-- a search downwards: v = m - 1 is looked at, from m = a + n on -/
theorem loop_dn {β : Type} {f : Int32 × Int32 → Option (β ⊕ Int32 × Int32)} {P : Nat → Bool} {out : Option Nat → β} {a b : Nat} (hs : ∀ m p, a ≤ m → m < b → p < 2 ^ 31 → f (nI (m + 1) - 1, nI p) = some (if P m then (if p = 0 then .inl (out (some m)) else .inr (nI m - 1, nI (p - 1))) else .inr (nI m - 1, nI p))) (hx : ∀ p, f (nI a - 1, p) = some (.inl (out none))) : ∀ (n fu p : Nat), a + n ≤ b → n < fu → p < 2 ^ 31 → loopM f fu (nI (a + n) - 1, nI p) = some (out (lst P a n p)) := by
  intro n
  induction n with
  | zero =>
    intro fu p h1 h2 h3
    obtain ⟨fu, rfl⟩ : ∃ k, fu = k + 1 := ⟨fu - 1, by omega⟩
    show loopM f (fu + 1) (nI a - 1, nI p) = _
    rw [loopM_l (hx _)]; rfl
  | succ n ih =>
    intro fu p h1 h2 h3
    obtain ⟨fu, rfl⟩ : ∃ k, fu = k + 1 := ⟨fu - 1, by omega⟩
    have hs1 := hs (a + n) p (by omega) (by omega) h3
    unfold lst
    by_cases hP : P (a + n) = true
    · rw [if_pos hP] at hs1
      by_cases hp : p = 0
      · rw [if_pos hp] at hs1
        rw [show a + (n + 1) = a + n + 1 by omega, loopM_l hs1, if_pos hP, if_pos hp]
      · rw [if_neg hp] at hs1
        rw [show a + (n + 1) = a + n + 1 by omega, loopM_r hs1, if_pos hP, if_neg hp]
        exact ih fu (p - 1) (by omega) (by omega) (by omega)
    · rw [if_neg hP] at hs1
      rw [show a + (n + 1) = a + n + 1 by omega, loopM_r hs1, if_neg hP]
      exact ih fu p (by omega) (by omega) h3
/-- a counted loop over a relation -/
theorem loop_rel {α β : Type} {f : Int32 × α → Option (β ⊕ (Int32 × α))} (R : Nat → α → Prop) {Q : β → Prop} (b : Nat) (hs : ∀ k x, k < b → R k x → ok (f (nI k, x)) (fun r => ∃ x', r = .inr (nI (k + 1), x') ∧ R (k + 1) x')) (hx : ∀ x, R b x → ok (f (nI b, x)) (fun r => ∃ y, r = .inl y ∧ Q y)) : ∀ (n a fu : Nat) (x : α), a + n = b → n < fu → R a x → ok (loopM f fu (nI a, x)) Q := by
  intro n
  induction n with
  | zero =>
    intro a fu x hab hfu hP
    obtain ⟨fu, rfl⟩ : ∃ k, fu = k + 1 := ⟨fu - 1, by omega⟩
    obtain rfl : a = b := by omega
    obtain ⟨r, h1, y, rfl, h2⟩ := hx x hP
    exact ⟨y, loopM_l h1, h2⟩
  | succ n ih =>
    intro a fu x hab hfu hP
    obtain ⟨fu, rfl⟩ : ∃ k, fu = k + 1 := ⟨fu - 1, by omega⟩
    obtain ⟨r, h1, y, rfl, h2⟩ := hs a x (by omega) hP
    rw [show loopM f (fu + 1) (nI a, x) = loopM f fu (nI (a + 1), y) from loopM_r h1]
    exact ih (a + 1) fu y (by omega) (by omega) h2
/-- .. that may end early -/
theorem loop_relX {α β : Type} {f : Int32 × α → Option (β ⊕ (Int32 × α))} (R : Nat → α → Prop) {Q : β → Prop} (b : Nat) (hs : ∀ k x, k < b → R k x → ok (f (nI k, x)) (fun r => (∃ y, r = .inl y ∧ Q y) ∨ ∃ x', r = .inr (nI (k + 1), x') ∧ R (k + 1) x')) (hx : ∀ x, R b x → ok (f (nI b, x)) (fun r => ∃ y, r = .inl y ∧ Q y)) : ∀ (n a fu : Nat) (x : α), a + n = b → n < fu → R a x → ok (loopM f fu (nI a, x)) Q := by
  intro n
  induction n with
  | zero =>
    intro a fu x hab hfu hP
    obtain ⟨fu, rfl⟩ : ∃ k, fu = k + 1 := ⟨fu - 1, by omega⟩
    obtain rfl : a = b := by omega
    obtain ⟨r, h1, y, rfl, h2⟩ := hx x hP
    exact ⟨y, loopM_l h1, h2⟩
  | succ n ih =>
    intro a fu x hab hfu hP
    obtain ⟨fu, rfl⟩ : ∃ k, fu = k + 1 := ⟨fu - 1, by omega⟩
    obtain ⟨r, h1, h2⟩ := hs a x (by omega) hP
    rcases h2 with ⟨y, rfl, h2⟩ | ⟨y, rfl, h2⟩
    · exact ⟨y, loopM_l h1, h2⟩
    · rw [show loopM f (fu + 1) (nI a, x) = loopM f fu (nI (a + 1), y) from loopM_r h1]
      exact ih (a + 1) fu y (by omega) (by omega) h2

