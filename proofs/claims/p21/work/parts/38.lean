/-! pure: many ticks -/
def runT (τ : MS) (st : MS → Bool) : Nat → MS → MS
  | 0, σ => σ
  | n + 1, σ => if st σ then σ else runT τ st n (tickF τ σ)
def stJ (j : Nat) (σ : MS) : Bool := decide ((3 : Int32) ≤ σ 5 j)
def stN (_ : MS) : Bool := false
theorem runT_st {τ : MS} {st : MS → Bool} {σ : MS} (h : st σ = true) : ∀ n, runT τ st n σ = σ := by
  intro n
  cases n with
  | zero => rfl
  | succ n => unfold runT; rw [h]; rfl
theorem runT_s {τ : MS} {st : MS → Bool} {σ : MS} {n : Nat} (h : st σ = false) : runT τ st (n + 1) σ = runT τ st n (tickF τ σ) := by
  show (if st σ then σ else _) = _
  rw [h]; rfl
section RU
variable {τ σ : MS} {w : Nat → Int32} {μ0 μ : MS} {F s j k : Nat} {p v : Int32} {B T U : Int} {st : MS → Bool}
theorem WI.time (h : WI B T τ σ) {x : Int32} (h1 : (σ 1 0).toInt ≤ x.toInt) (h2 : x.toInt ≤ T) : WI B T τ (pf σ 1 x) := by
  obtain ⟨b1, b2, ⟨b3, b4⟩, b5⟩ := h
  have ht : ∀ c i, c ≠ 1 → pf σ 1 x c i = σ c i := fun c i hc => pf_n _ _ _ _ _ hc
  have e10 : pf σ 1 x 1 0 = x := by rw [pf_at, if_pos rfl]
  refine ⟨fun k hk => by rw [ht _ _ (by decide)]; exact b1 k hk, fun j hj => ⟨fun t t1 t2 => ?_, ?_⟩, ?_, fun i => by rw [pf_at, if_pos rfl, e10]⟩
  · have := (b2 j hj).1 t t1 t2
    rw [ht _ _ (by decide), ht _ _ (by decide), ht _ _ (by decide), e10]
    exact ⟨this.1, fun q => by have := this.2 q; omega⟩
  · have := (b2 j hj).2
    unfold LJ at this ⊢
    rw [ht _ _ (by decide), ht _ _ (by decide), ht _ _ (by decide)]
    exact ⟨this.1, this.2.1, this.2.2.1, fun q => by obtain ⟨s, h1, h2, h3⟩ := this.2.2.2 q; exact ⟨s, h1, h2, by rw [ht _ _ (by decide)]; exact h3⟩⟩
  · rw [e10]; exact ⟨by omega, h2⟩
theorem pf_self (h : WI B T τ σ) {x : Int32} (hx : x.toInt = (σ 1 0).toInt) : pf σ 1 x = σ := by
  have := h.2.2.2
  rw [← eqI] at hx
  funext c i
  rw [pf_at]
  split
  · next q => rw [q, this i, hx]
  · rfl
theorem pf_pf (σ : MS) (x y : Int32) : pf (pf σ 1 x) 1 y = pf σ 1 y := by
  funext c i
  rw [pf_at, pf_at, pf_at]
  split <;> rfl
/-- d ticks in which nothing happens -/
theorem run_idle (hI : SI τ) (hT : T ≤ 1000000) (hst : ∀ σ x, st (pf σ 1 x) = st σ) : ∀ (d : Nat) (σ : MS), WI B T τ σ → Idl τ σ U → st σ = false → (σ 1 0).toInt + d ≤ U → (σ 1 0).toInt + d ≤ T → ∀ (m : Nat) (x : Int32), x.toInt = (σ 1 0).toInt + d → runT τ st (d + m) σ = runT τ st m (pf σ 1 x) := by
  intro d
  induction d with
  | zero =>
    intro σ hW hd hs h1 h2 m x hx
    rw [pf_self hW (by omega), Nat.zero_add]
  | succ d ih =>
    intro σ hW hd hs h1 h2 m x hx
    have e1 : (1 : Int32).toInt = 1 := rfl
    have ht := hW.2.2.1
    obtain ⟨t1, t2⟩ := ht
    have e2 : (σ 1 0 + 1).toInt = (σ 1 0).toInt + 1 := by rw [aI (by omega) (by omega), e1]
    have e3 : pf σ 1 (σ 1 0 + 1) 1 0 = σ 1 0 + 1 := by rw [pf_at, if_pos rfl]
    rw [show d + 1 + m = (d + m) + 1 by omega, runT_s hs, idle_tick hI hW hT hd (by omega)]
    rw [ih (pf σ 1 (σ 1 0 + 1)) (hW.time (by omega) (by omega)) hd.time (by rw [hst]; exact hs) (by rw [e3]; omega) (by rw [e3]; omega) m x (by rw [e3]; omega), pf_pf]
theorem loop_gen {α β : Type} {f : α → Option (β ⊕ α)} {fu : Nat} {a a' : α} (h : f a = some (.inr a')) (hf : 0 < fu) : loopM f fu a = loopM f (fu - 1) a' := by
  obtain ⟨n, rfl⟩ : ∃ n, fu = n + 1 := ⟨fu - 1, by omega⟩
  exact loopM_r h
theorem loop_gol {α β : Type} {f : α → Option (β ⊕ α)} {fu : Nat} {a : α} {b : β} (h : f a = some (.inl b)) (hf : 0 < fu) : loopM f fu a = some b := by
  obtain ⟨n, rfl⟩ : ∃ n, fu = n + 1 := ⟨fu - 1, by omega⟩
  exact loopM_l h
/-- the class's ticks, passed over where nothing happens, are as many ticks one by one -/
theorem c_runL (hI : SI τ) (hF : 5000 ≤ F) (hst : ∀ σ x, st (pf σ 1 x) = st σ) {a p4 : Int32} {n : Nat} (hn : n ≤ 3000) (hend : p4.toInt ≤ 900000) (hck : ∀ B T σ, WI B T τ σ → (if a < 0 then some false else ob1 (mX2_rests F τ σ a) fun r14 => (if r14 = 0 then some false else some true)) = some (st σ)) : ∀ (m i fu : Nat) (σ : MS) (B : Int), i + m ≤ n → m < fu → WI B p4.toInt τ σ → B + 7992 * (m : Int) ≤ 2147400000 → (σ 1 0).toInt + m = p4.toInt → ∃ r, loopM (fun x : Int32 × MS => mX2_passTicks_L10 F p4 (nI n) a τ x.1 x.2) fu (nI i, σ) = some r ∧ (r = .inl (runT τ st m σ) ∨ r = .inr (runT τ st m σ)) := by
  intro m
  induction m using Nat.strongRecOn with
  | ind m ih =>
    intro i fu σ B him hfu hW hB hend2
    have hcond : ∀ q : Bool, (if nI n ≤ nI i then some false else if p4 ≤ σ 1 0 then some false else some true) = some q → mX2_passTicks_L10 F p4 (nI n) a τ (nI i) σ = cnd q (ob1 (if a < 0 then some false else ob1 (mX2_rests F τ σ a) fun r14 => (if r14 = 0 then some false else some true)) fun t11 => cnd t11 (some (.inl (.inl σ))) (ob1 (mX2_nextEventTime F τ σ) fun r17 => ob1 (some (pf σ 1 (if r17 < p4 then r17 else p4))) fun σ18 => ob1 (if p4 ≤ (σ18 1 0) then some σ18 else ob1 (mX2_passTick F τ σ18) fun σ23 => some σ23) fun σ19 => some (.inr ((nI i + (1 : Int32)), σ19)))) (some (.inl (.inr σ))) := fun q hq => by
      unfold mX2_passTicks_L10
      rw [hq, ob1_e]
    by_cases hm : m = 0
    · subst hm
      refine ⟨.inr σ, loop_gol ?_ (by omega), Or.inr rfl⟩
      show mX2_passTicks_L10 F p4 (nI n) a τ (nI i) σ = _
      rw [hcond false (by
        have : p4 ≤ σ 1 0 := by rw [leI]; omega
        by_cases q : nI n ≤ nI i
        · rw [if_pos q]
        · rw [if_neg q, if_pos this])]
      rfl
    · have hlt : ¬ nI n ≤ nI i := nle (by omega) (by omega) (by omega)
      have hlt2 : ¬ p4 ≤ σ 1 0 := by rw [leI]; omega
      have hc := hcond true (by rw [if_neg hlt, if_neg hlt2])
      rw [hck _ _ σ hW, ob1_e, cnd_T] at hc
      cases hs : st σ with
      | true =>
        rw [hs, cnd_T] at hc
        exact ⟨_, loop_gol hc (by omega), Or.inl (by rw [runT_st hs])⟩
      | false =>
        rw [hs, cnd_F] at hc
        obtain ⟨r17, n1, n2, n3⟩ := c_next (F := F) hI hW (by omega) hF
        rw [n1, ob1_e, ob1_e] at hc
        have e10 : ∀ x, pf σ 1 x 1 0 = x := fun x => by rw [pf_at, if_pos rfl]
        rw [e10] at hc
        by_cases hr : r17 < p4
        · rw [if_pos hr] at hc
          rw [ltI] at hr
          have hnp : ¬ p4 ≤ r17 := by rw [leI]; omega
          rw [if_neg hnp, c_tick hI hF, ob1_e, ob1_e, nI_s] at hc
          obtain ⟨d, hd⟩ : ∃ d : Nat, (d : Int) = r17.toInt - (σ 1 0).toInt := ⟨(r17.toInt - (σ 1 0).toInt).toNat, by omega⟩
          have hW18 := hW.time (x := r17) n2 (by omega)
          have hidl : runT τ st m σ = runT τ st (m - d - 1) (tickF τ (pf σ 1 r17)) := by
            by_cases hd0 : d = 0
            · rw [pf_self hW (by omega), show m = (m - d - 1) + 1 by omega, runT_s hs, show m - d - 1 + 1 - d - 1 = m - d - 1 by omega]
            · have := run_idle (U := r17.toInt) (st := st) hI (by omega) hst d σ hW (n3 (by omega)) hs (by omega) (by omega) (m - d) r17 (by omega)
              rw [show d + (m - d) = m by omega] at this
              rw [this, show m - d = (m - d - 1) + 1 by omega, runT_s (by rw [hst]; exact hs), show m - d - 1 + 1 - 1 = m - d - 1 by omega]
          obtain ⟨k1, k2⟩ := tick_inv hI (by omega) (by omega) hW18
          have e1 : (1 : Int32).toInt = 1 := rfl
          have hW18t := hW18.2.2.1
          have hW18b : WI B (p4.toInt - 1) τ (pf σ 1 r17) := ⟨hW18.1, hW18.2.1, by rw [e10]; exact ⟨by have := hW.t0; omega, by omega⟩, hW18.2.2.2⟩
          obtain ⟨k1, k2⟩ := tick_inv hI (by omega) (by omega) hW18b
          have et : (tickF τ (pf σ 1 r17) 1 0).toInt = r17.toInt + 1 := by
            have := hW.t0
            rw [k2, e10, aI (by omega) (by omega), e1]
          rw [show p4.toInt - 1 + 1 = p4.toInt by omega] at k1
          obtain ⟨r, l1, l2⟩ := ih (m - d - 1) (by omega) (i + 1) (fu - 1) (tickF τ (pf σ 1 r17)) (B + 7992) (by omega) (by omega) k1 (by omega) (by rw [et]; omega)
          refine ⟨r, (loop_gen hc (by omega)).trans l1, ?_⟩
          rw [hidl]
          exact l2
        · rw [if_neg hr] at hc
          rw [ltI] at hr
          rw [if_pos (Int32.le_refl _), ob1_e, nI_s] at hc
          have hidl := run_idle (U := r17.toInt) (st := st) hI (by omega) hst m σ hW (n3 (by omega)) hs (by omega) (by omega) 0 p4 (by omega)
          rw [Nat.add_zero] at hidl
          obtain ⟨r, l1, l2⟩ := ih 0 (by omega) (i + 1) (fu - 1) (pf σ 1 p4) B (by omega) (by omega) (hW.time (by omega) (Int.le_refl _)) (by omega) (by rw [e10]; omega)
          refine ⟨r, (loop_gen hc (by omega)).trans l1, ?_⟩
          rw [hidl]
          exact l2
theorem c_run (hI : SI τ) (hF : 5000 ≤ F) (hst : ∀ σ x, st (pf σ 1 x) = st σ) {a : Int32} {n : Nat} (hn : n ≤ 3000) (hT : 0 ≤ T) (hT2 : T ≤ 100000) (hck : ∀ B T σ, WI B T τ σ → (if a < 0 then some false else ob1 (mX2_rests F τ σ a) fun r14 => (if r14 = 0 then some false else some true)) = some (st σ)) (hW : WI B T τ σ) (hB : B + 7992 * (n : Int) ≤ 2147400000) : mX2_passTicks F τ σ (nI n) a = some (runT τ st n σ) := by
  have ht := hW.2.2.1
  obtain ⟨t1, t2⟩ := ht
  have en : (nI n).toInt = n := nI_toInt (by omega)
  have e : (σ 1 0 + nI n).toInt = (σ 1 0).toInt + n := by rw [aI (by omega) (by omega), en]
  have hW' : WI B (σ 1 0 + nI n).toInt τ σ := ⟨hW.1, hW.2.1, ⟨t1, by omega⟩, hW.2.2.2⟩
  obtain ⟨r, l1, l2⟩ := c_runL (st := st) (a := a) (p4 := σ 1 0 + nI n) (n := n) hI hF hst hn (by omega) hck n 0 F σ B (by omega) (by omega) hW' hB (by omega)
  unfold mX2_passTicks
  rw [i0, l1, ob1_e]
  rcases l2 with rfl | rfl <;> rfl
theorem ck_N (hF : 5000 ≤ F) : ∀ B T σ, WI B T τ σ → (if (-1 : Int32) < 0 then some false else ob1 (mX2_rests F τ σ (-1)) fun r14 => (if r14 = 0 then some false else some true)) = some (stN σ) := fun B T σ _ => by rw [if_pos (by decide)]; rfl
theorem ck_J (hI : SI τ) (hj : j < Jn τ) : ∀ B T σ, WI B T τ σ → (if nI j < 0 then some false else ob1 (mX2_rests F τ σ (nI j)) fun r14 => (if r14 = 0 then some false else some true)) = some (stJ j σ) := fun B T σ hW => by
  have h8 := hI.j8 hj
  rw [if_neg (nI_nl0 (by omega)), c_rests hI hj (hW.2.1 j hj).2.1, ob1_e]
  unfold stJ
  by_cases q : (3 : Int32) ≤ σ 5 j <;> simp [q, b01]
theorem st_N : ∀ (σ : MS) (x : Int32), stN (pf σ 1 x) = stN σ := fun _ _ => rfl
theorem st_J : ∀ (σ : MS) (x : Int32), stJ j (pf σ 1 x) = stJ j σ := fun σ x => by unfold stJ; rw [pf_n _ _ _ _ _ (by decide)]
/-- the world behind n ticks -/
theorem run_inv (hI : SI τ) : ∀ (n : Nat) (σ : MS) (B T : Int), WI B T τ σ → B + 7992 * (n : Int) ≤ 2147400000 → T + n ≤ 1000000 → WI (B + 7992 * (n : Int)) (T + n) τ (runT τ st n σ) := by
  intro n
  induction n with
  | zero => intro σ B T h _ _; simpa [runT] using h
  | succ n ih =>
    intro σ B T h hB hT
    unfold runT
    split
    · exact h.mono (by omega) (by omega)
    · have := ih (tickF τ σ) (B + 7992) (T + 1) (tick_inv hI (by omega) (by omega) h).1 (by omega) (by omega)
      exact this.mono (by omega) (by omega)
end RU

