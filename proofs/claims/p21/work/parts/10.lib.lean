/-! pure: what a mirror answers -/
theorem ob1_e {α γ : Type} (x : α) (f : α → Option γ) : ob1 (some x) f = f x := rfl
theorem ob2_e {α β γ : Type} (x : α) (y : β) (f : α → β → Option γ) : ob2 (some (x, y)) f = f x y := rfl
theorem ob3_e {α β δ γ : Type} (x : α) (y : β) (z : δ) (f : α → β → δ → Option γ) : ob3 (some (x, y, z)) f = f x y z := rfl
theorem ob1_ite {α γ : Type} {c : Prop} [Decidable c] (a b : Option α) (f : α → Option γ) : ob1 (if c then a else b) f = if c then ob1 a f else ob1 b f := by
  by_cases h : c
  · rw [if_pos h, if_pos h]
  · rw [if_neg h, if_neg h]
theorem cnd_T {γ : Type} (a b : Option γ) : cnd true a b = a := rfl
theorem cnd_F {γ : Type} (a b : Option γ) : cnd false a b = b := rfl
theorem el1_L {ρ α γ : Type} (r : ρ) (f : ρ → Option γ) (g : α → Option γ) : el1 (.inl r) f g = f r := rfl
theorem el1_R {ρ α γ : Type} (s : α) (f : ρ → Option γ) (g : α → Option γ) : el1 (.inr s) f g = g s := rfl
theorem el2_L {ρ α β γ : Type} (r : ρ) (f : ρ → Option γ) (g : α → β → Option γ) : el2 (.inl r) f g = f r := rfl
theorem el2_R {ρ α β γ : Type} (s : α) (t : β) (f : ρ → Option γ) (g : α → β → Option γ) : el2 (.inr (s, t)) f g = g s t := rfl
/-- it comes to an answer, and of the answer Q holds -/
def ok {α : Type} (m : Option α) (Q : α → Prop) : Prop := ∃ x, m = some x ∧ Q x
theorem ok_some {α : Type} {x : α} {Q : α → Prop} (h : Q x) : ok (some x) Q := ⟨x, rfl, h⟩
theorem ok_ob1 {α γ : Type} {m : Option α} {f : α → Option γ} {Q : γ → Prop} (h : ok m (fun x => ok (f x) Q)) : ok (ob1 m f) Q := by
  obtain ⟨x, rfl, y, h1, h2⟩ := h
  exact ⟨y, h1, h2⟩
theorem ok_ob2 {α β γ : Type} {m : Option (α × β)} {f : α → β → Option γ} {Q : γ → Prop} (h : ok m (fun x => ok (f x.1 x.2) Q)) : ok (ob2 m f) Q := ok_ob1 h
theorem ok_ob3 {α β δ γ : Type} {m : Option (α × β × δ)} {f : α → β → δ → Option γ} {Q : γ → Prop} (h : ok m (fun x => ok (f x.1 x.2.1 x.2.2) Q)) : ok (ob3 m f) Q := ok_ob1 h
theorem ok_mono {α : Type} {m : Option α} {P Q : α → Prop} (h : ok m P) (hPQ : ∀ x, P x → Q x) : ok m Q := by
  obtain ⟨x, h1, h2⟩ := h
  exact ⟨x, h1, hPQ x h2⟩
theorem ok_ite {α : Type} {c : Prop} [Decidable c] {a b : Option α} {Q : α → Prop} (h1 : c → ok a Q) (h2 : ¬ c → ok b Q) : ok (if c then a else b) Q := by
  by_cases h : c
  · rw [if_pos h]; exact h1 h
  · rw [if_neg h]; exact h2 h
theorem ok_cnd {α : Type} {t : Bool} {a b : Option α} {Q : α → Prop} (h1 : t = true → ok a Q) (h2 : t = false → ok b Q) : ok (cnd t a b) Q := by
  cases t
  · exact h2 rfl
  · exact h1 rfl
theorem ok_eq {α : Type} {m : Option α} {x : α} {Q : α → Prop} (h : m = some x) (hq : Q x) : ok m Q := ⟨x, h, hq⟩
/-- a loop: an invariant and a measure that falls -/
theorem ok_loop {α β : Type} {f : α → Option (β ⊕ α)} (P : α → Prop) (μ : α → Nat) {Q : β → Prop} (h : ∀ a, P a → ok (f a) (fun r => (∃ b, r = .inl b ∧ Q b) ∨ ∃ a', r = .inr a' ∧ P a' ∧ μ a' < μ a)) : ∀ (fu : Nat) (a : α), P a → μ a < fu → ok (loopM f fu a) Q := by
  intro fu
  induction fu with
  | zero => intro a _ hm; omega
  | succ n ih =>
    intro a hP hm
    obtain ⟨r, h1, h2⟩ := h a hP
    unfold loopM
    rw [h1, ob1_e]
    rcases h2 with ⟨b, rfl, hb⟩ | ⟨a', rfl, hP', hlt⟩
    · exact ⟨b, rfl, hb⟩
    · exact ih a' hP' (by omega)
/-- a loop's answer is its value -/
theorem loop_eq {α β : Type} {f : α → Option (β ⊕ α)} (P : α → Prop) (μ : α → Nat) (v : α → β) (h : ∀ a, P a → f a = some (.inl (v a)) ∨ ∃ a', f a = some (.inr a') ∧ P a' ∧ μ a' < μ a ∧ v a' = v a) : ∀ (fu : Nat) (a : α), P a → μ a < fu → loopM f fu a = some (v a) := by
  intro fu
  induction fu with
  | zero => intro a _ hm; omega
  | succ n ih =>
    intro a hP hm
    unfold loopM
    rcases h a hP with h1 | ⟨a', h1, hP', hlt, hv⟩
    · rw [h1]; rfl
    · rw [h1, ← hv]
      exact ih a' hP' (by omega)
/-- g at a, a + 1, .., n times -/
def fo {α : Type} (g : Nat → α → α) : Nat → Nat → α → α
  | _, 0, x => x
  | a, n + 1, x => fo g (a + 1) n (g a x)
/-- a counted loop without early ends -/
theorem loop_up {α β : Type} {f : Int32 × α → Option (β ⊕ (Int32 × α))} (P : Nat → α → Prop) (g : Nat → α → α) (e : α → β) (b : Nat) (hs : ∀ k x, k < b → P k x → f (nI k, x) = some (.inr (nI (k + 1), g k x)) ∧ P (k + 1) (g k x)) (hx : ∀ x, P b x → f (nI b, x) = some (.inl (e x))) : ∀ (n a fu : Nat) (x : α), a + n = b → n < fu → P a x → loopM f fu (nI a, x) = some (e (fo g a n x)) := by
  intro n
  induction n with
  | zero =>
    intro a fu x hab hfu hP
    obtain ⟨fu, rfl⟩ : ∃ k, fu = k + 1 := ⟨fu - 1, by omega⟩
    have hab : a = b := by omega
    subst hab
    unfold loopM
    rw [hx x hP]
    rfl
  | succ n ih =>
    intro a fu x hab hfu hP
    obtain ⟨fu, rfl⟩ : ∃ k, fu = k + 1 := ⟨fu - 1, by omega⟩
    obtain ⟨h1, h2⟩ := hs a x (by omega) hP
    unfold loopM
    rw [h1]
    exact ih (a + 1) fu (g a x) (by omega) (by omega) h2
theorem rd_at {f : FS} {n k : Nat} (hk : k < n) (hn : n < 2 ^ 31) : rd f n (nI k) = some (f k) := by
  unfold rd
  have h : ¬ (nI k < 0 ∨ n ≤ (nI k).toNatClampNeg) := vp_in_nI hk hn
  rw [if_neg h, nI_clamp (by omega)]
theorem wr_at {f : FS} {n k : Nat} {x : Int32} (hk : k < n) (hn : n < 2 ^ 31) : wr f n (nI k) x = some (upd f k x) := by
  unfold wr
  have h : ¬ (nI k < 0 ∨ n ≤ (nI k).toNatClampNeg) := vp_in_nI hk hn
  rw [if_neg h, nI_clamp (by omega)]
/-- one place put anew -/
def u2 (σ : MS) (k i : Nat) (x : Int32) : MS := va_up σ k (upd (σ k) i x)
theorem wra_at {σ : MS} {c n k : Nat} {x : Int32} (hk : k < n) (hn : n < 2 ^ 31) : wra σ c n (nI k) x = some (u2 σ c k x) := by
  unfold wra
  have h : ¬ (nI k < 0 ∨ n ≤ (nI k).toNatClampNeg) := vp_in_nI hk hn
  rw [if_neg h, nI_clamp (by omega)]
  rfl
theorem u2_at (σ : MS) (k i : Nat) (x : Int32) (k' i' : Nat) : u2 σ k i x k' i' = if k' = k ∧ i' = i then x else σ k' i' := by
  unfold u2 va_up upd
  by_cases h : k' = k
  · subst h
    by_cases h2 : i' = i
    · simp [h2]
    · simp [h2]
  · simp [h]
theorem pf_at (σ : MS) (k : Nat) (x : Int32) (k' i' : Nat) : pf σ k x k' i' = if k' = k then x else σ k' i' := by
  unfold pf va_up
  by_cases h : k' = k
  · simp [h]
  · simp [h]

