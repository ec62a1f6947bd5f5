/-! pure: forecasts, and ticks that pass -/
theorem Rel.d451 {τ σ : MS} {d d1 : FS} (hI : SI τ) (hd : ∀ x, x < 451 → d1 x = d x) (h : Rel τ σ d) : Rel τ σ d1 := by
  have h6 := hI.S.2; have h8 := hI.J.2; have hN := hI.N.2
  obtain ⟨g, k, j, t⟩ := h
  exact ⟨g.same rfl rfl (fun x hx => hd x (by omega)), fun k9 hk => (k k9 hk).same rfl (fun x _ _ => hd x (by omega)), fun j9 hj => (j j9 hj).same (fun c _ _ => rfl) (fun x _ _ => hd x (by omega)), fun t9 ht => (t t9 ht).same (fun c _ _ => rfl) (fun x _ _ => hd x (by omega))⟩
/-- a world's copy -/
def Cpy (σ1 σ : MS) : Prop := (∀ i, σ1 1 i = σ 1 0) ∧ σ1 2 0 = σ 2 0 ∧ ∀ c, c = 3 ∨ (5 ≤ c ∧ c ≤ 13) → σ1 c = σ c
theorem WI.cpy {τ σ σ1 : MS} {B T : Int} (h : WI B T τ σ) (hc : Cpy σ1 σ) : WI B T τ σ1 := by
  obtain ⟨h1, h2, h3⟩ := hc
  obtain ⟨b1, b2, b3, b4⟩ := h
  refine ⟨fun k hk => by rw [h3 3 (by decide)]; exact b1 k hk, fun j hj => ⟨fun t t1 t2 => ?_, ?_⟩, by rw [h1]; exact b3, fun i => by rw [h1, h1]⟩
  · rw [h3 10 (by decide), h3 9 (by decide), h3 12 (by decide), h1]
    exact (b2 j hj).1 t t1 t2
  · have := (b2 j hj).2
    unfold LJ at this ⊢
    rw [h3 5 (by decide), h3 6 (by decide), h3 8 (by decide), h3 9 (by decide)]
    exact this
theorem Rel.cpy {τ σ σ1 : MS} {d : FS} (h : Rel τ σ d) (hc : Cpy σ1 σ) : Rel τ σ1 d := by
  obtain ⟨h1, h2, h3⟩ := hc
  obtain ⟨g, k, j, t⟩ := h
  exact ⟨g.same (h1 0) h2 (fun _ _ => rfl), fun k9 hk => (k k9 hk).same (by rw [h3 3 (by decide)]) (fun _ _ _ => rfl), fun j9 hj => (j j9 hj).same (fun c c1 c2 => by rw [h3 c (by omega)]) (fun _ _ _ => rfl), fun t9 ht => (t t9 ht).same (fun c c1 c2 => by rw [h3 c (by omega)]) (fun _ _ _ => rfl)⟩
theorem WRB_s (B : Int) : WRs (WRB B) :=
  ⟨fun τ σ σ1 d h1 h2 h3 h => ⟨h.1, h.2.1.cpy ⟨h1, h2, h3⟩, h.2.2.cpy ⟨h1, h2, h3⟩⟩, fun τ σ d d1 hd h => ⟨h.1, h.2.1.d451 h.1 hd, h.2.2⟩⟩
/-- only the forecast's world and row have changed -/
theorem HI.fc {WR : MS → MS → FS → Prop} (hW : WRs WR) {τs : WS} {n : Nat} {pa : PA} {β : FS} {υ : MS} {ω ω1 : WS} {sid sid1 : PA} {μ μ1 : MS} (h : HI WR τs n pa β υ ω sid μ) (hω : ∀ v, v ≠ 1 → ω1 v = ω v) (hs : ∀ v, v ≠ 1 → sid1 v = sid v) (hs1 : sid1 1 < n) (hq : ∀ q, q ≠ 0 → q ≠ 8 → q ≠ 10 → μ1 q = μ q) (h8 : ∀ x, x < 451 → μ1 8 x = μ 8 x) : HI WR τs n pa β υ ω1 sid1 μ1 := by
  obtain ⟨⟨len, d1, d2, d3, d4⟩, herr, hs0, hp, hi, hnow, u, hu, h6, h12, hpast⟩ := h
  refine ⟨⟨len, d1, d2, by rw [hq 2 (by decide) (by decide) (by decide)]; exact d3, fun k hk => by rw [hq 1 (by decide) (by decide) (by decide)]; exact d4 k hk⟩, by rw [hq 7 (by decide) (by decide) (by decide)]; exact herr, fun v hv => ?_, hp, hi, ?_, u, hu, h6, by rw [hq 12 (by decide) (by decide) (by decide)]; exact h12, fun j hj => ?_⟩
  · by_cases q : v = 1
    · rw [q]; exact hs1
    · rw [hs v q]; exact hs0 v hv
  · rw [hω 0 (by decide), hs 0 (by decide)]
    exact hW.2 _ _ _ _ h8 hnow
  · have := (hp j (by omega)).1
    rw [hω _ (by omega), hs _ (by omega), hq _ (by omega) (by omega) (by omega)]
    exact hpast j hj
section FC
variable {τ σ : MS} {w : Nat → Int32} {μ0 μ : MS} {F s j k : Nat} {p v : Int32} {B T U : Int} {st : MS → Bool}
/-- the reference's ticks, one by one, until it is to stop -/
theorem m_runL (hI : SI τ) (hF : 5000 ≤ F) {γ : Type} {f : Int32 × MS → Option (γ ⊕ (Int32 × MS))} {out : Nat → MS → γ} {n : Nat} (hn : n ≤ 3000) (hf : ∀ i σ B T μ w, i ≤ n → WI B T τ σ → MR τ σ w μ0 μ → f (nI i, μ) = if i < n ∧ st σ = false then ob1 (mX4_tick F μ) (fun μ' => some (.inr (nI i + 1, μ'))) else some (.inl (out i μ))) : ∀ (m i fu : Nat) (σ : MS) (B T : Int) (μ : MS) (w : Nat → Int32), i + m = n → m < fu → WI B T τ σ → MR τ σ w μ0 μ → B + 7992 * (m : Int) ≤ 2147400000 → T + m ≤ 1000000 → ∃ (d : Nat) (μ' : MS) (w' : Nat → Int32), loopM f fu (nI i, μ) = some (out (i + d) μ') ∧ d ≤ m ∧ MR τ (runT τ st m σ) w' μ0 μ' ∧ runT τ st m σ 1 0 = σ 1 0 + nI d := by
  intro m
  induction m with
  | zero =>
    intro i fu σ B T μ w him hfu hW hM hB hT
    have h1 := hf i σ B T μ w (by omega) hW hM
    rw [if_neg (by omega)] at h1
    exact ⟨0, μ, w, loop_gol h1 (by omega), Nat.le_refl _, hM, by simp [runT, nI]⟩
  | succ m ih =>
    intro i fu σ B T μ w him hfu hW hM hB hT
    have h1 := hf i σ B T μ w (by omega) hW hM
    cases hs : st σ with
    | true =>
      rw [if_neg (by rw [hs]; simp)] at h1
      exact ⟨0, μ, w, loop_gol h1 (by omega), Nat.zero_le _, by rw [runT_st hs]; exact hM, by rw [runT_st hs]; simp [nI]⟩
    | false =>
      rw [if_pos ⟨by omega, hs⟩] at h1
      obtain ⟨μ1, l1, w1, r1⟩ := m_tick (F := F) hI (by omega) hW hM hF
      rw [l1, ob1_e, nI_s] at h1
      obtain ⟨k1, k2⟩ := tick_inv hI (by omega) (by omega) hW
      obtain ⟨d, μ', w', l2, l3, l4, l5⟩ := ih (i + 1) (fu - 1) (tickF τ σ) (B + 7992) (T + 1) μ1 w1 (by omega) (by omega) k1 r1 (by omega) (by omega)
      refine ⟨d + 1, μ', w', (loop_gen h1 (by omega)).trans (l2.trans (by rw [show i + (d + 1) = i + 1 + d by omega])), by omega, by rw [runT_s hs]; exact l4, ?_⟩
      rw [runT_s hs, l5, k2, ← nI_s, Int32.add_assoc, Int32.add_comm 1]
end FC
theorem copy_fr {F : Nat} (hF : 5000 ≤ F) (f g : FS) : ∃ h : FS, mX4_copy F f g = some h ∧ ∀ x, x < 451 → h x = f x := ⟨cpf f g, copy_eq (by omega) f g, fun x hx => cpf_at f g x hx⟩
theorem copyFrom_c (F : Nat) (σo σ : MS) : ∃ σ1, mX2_copyFrom F σo σ = some σ1 ∧ Cpy σ1 σo ∧ σ1 4 = fun _ => 1000000 := by
  refine ⟨_, rfl, ⟨fun _ => rfl, rfl, fun c hc => ?_⟩, rfl⟩
  rcases (show c = 3 ∨ c = 5 ∨ c = 6 ∨ c = 7 ∨ c = 8 ∨ c = 9 ∨ c = 10 ∨ c = 11 ∨ c = 12 ∨ c = 13 by omega) with rfl | rfl | rfl | rfl | rfl | rfl | rfl | rfl | rfl | rfl <;> rfl
section FP
variable {F : Nat} {B : Int}
theorem gC_10 {sid : PA} {n : Nat} (h : ∀ v, v < 10 → sid v < n) : gC 1 0 sid n = some () := by
  unfold gC
  rw [if_pos ⟨by decide, by decide, by decide, h 1 (by decide), h 0 (by decide)⟩]
theorem gW_u {sid : PA} {n x : Nat} (h : ∀ v, v < 10 → sid v < n) (w : Nat) (hw : w < 10) : gW (va_up sid 1 (sid 0)) n w = some () := by
  refine gW_at hw ?_
  unfold va_up
  split
  · exact h 0 (by decide)
  · exact h w hw
theorem p_restsIn (hF : 5000 ≤ F) (hB0 : 0 ≤ B) (hB : B ≤ 2000000000) : ag_restsIn F (HI (WRB B)) (HI (WRB B)) := by
  intro τs n pa β υ ω sid μ hI i
  obtain ⟨⟨hS, hR, hW⟩, hg⟩ := hI.now
  cases hs : outJ (τs (sid 0)) i with
  | true =>
    refine ⟨.inl "java/lang/IndexOutOfBoundsException", 0, pf μ 0 1, ?_, by simp, ?_, th0 _ _ _, (by simp), fun _ _ => hI.p0 _, fun _ h => (by cases h)⟩
    · unfold mX3_restsIn; rw [c_ckJ hg, ift hs, obX_L]
    · unfold mX4_restsIn
      rw [ob1_e, m_noJ (μ := pf μ 0 0) hS hR (pf00 _ _), ob2_e, hs, if_neg (by decide), if_pos rfl, pf0f]
  | false =>
    obtain ⟨j, hj, rfl⟩ := outJ_F hS hs
    have hsid := hI.2.2.1
    obtain ⟨σ3, c1, c2, -⟩ := copyFrom_c F (ω 0) (ω 1)
    have hW3 := hW.cpy c2
    have hrun := c_run (st := stJ j) (a := nI j) (n := 3000) hS hF st_J (by decide) (by decide) (by decide) (ck_J hS hj) hW3 (by omega)
    have hWr := run_inv (st := stJ j) hS 3000 σ3 B 9999 hW3 (by omega) (by omega)
    obtain ⟨f6, d1, d2⟩ := copy_fr hF (μ 8) (μ 10)
    have hM7 : MR (τs (sid 0)) σ3 (fun j => μ 8 (27 + 9 * j)) (va_up (pf μ 0 0) 10 f6) (va_up (pf μ 0 0) 10 f6) := mrOf (μ := va_up (pf μ 0 0) 10 f6) (hR.cpy c2)
    obtain ⟨d, μ', w', l1, l2, l3, l4⟩ := m_runL (st := stJ j) (F := F) (μ0 := va_up (pf μ 0 0) 10 f6) (f := fun x : Int32 × MS => mX4_restsIn_L28 F (nI j) x.1 x.2) (out := fun i μ => (nI i, μ)) (n := 3000) hS hF (by decide) (fun i σ B T μ w hi hW hM => by
      show mX4_restsIn_L28 F (nI j) (nI i) μ = _
      unfold mX4_restsIn_L28
      by_cases q : i < 3000
      · rw [if_neg (i32_nle (c := 3000) (b := 3000) rfl (by omega) (by decide) q), m_rests hS hM hj, ob1_e]
        unfold stJ
        by_cases q2 : (3 : Int32) ≤ σ 5 j
        · rw [if_neg (by simp [b01, q2]), ob1_e, cnd_F, if_neg (by simp [q2])]
        · rw [if_pos (by simp [b01, q2]), ob1_e, cnd_T, if_pos ⟨q, by simp [q2]⟩]
      · have : i = 3000 := by omega
        subst this
        rw [if_pos (by decide), ob1_e, cnd_F, if_neg (by omega)]) 3000 0 F σ3 B 9999 _ _ rfl (by omega) hW3 hM7 (by omega) (by omega)
    rw [Nat.zero_add] at l1
    obtain ⟨f26, e1, e2⟩ := copy_fr hF (μ' 10) (μ' 8)
    have h10 : μ' 10 = f6 := by rw [l3.2.1 10 (by decide), va_up_self]
    have hrs := m_rests (F := F) hS l3 hj
    have hcr := c_rests (F := F) (σ := runT (τs (sid 0)) (stJ j) 3000 σ3) hS hj (hWr.2.1 j hj).2.1
    refine ⟨.inr ((if (3 : Int32) ≤ runT (τs (sid 0)) (stJ j) 3000 σ3 5 j then nI d else -1), va_up (va_up ω 1 σ3) 1 (runT (τs (sid 0)) (stJ j) 3000 σ3), va_up sid 1 (sid 0)), if (3 : Int32) ≤ runT (τs (sid 0)) (stJ j) 3000 σ3 5 j then nI d else -1, va_up μ' 8 f26, ?_, by simp, ?_, ?_, ?_, fun _ h => (by cases h), fun x hx => ?_⟩
    · unfold mX3_restsIn
      rw [c_ckJ hg, iff' hs, obX_R, gC_10 hsid, ob1_e, c1, ob1_e, ob1_e, ob1_e, gW_u (x := 0) hsid 1 (by decide), ob1_e, va_up_self, va_up_self, show (3000 : Int32) = nI 3000 from rfl, hrun, ob1_e, ob1_e, ob1_e, va_up_self, hcr, ob1_e, gW_u (x := 0) hsid 0 (by decide)]
      by_cases q : (3 : Int32) ≤ runT (τs (sid 0)) (stJ j) 3000 σ3 5 j
      · simp only [q, decide_true, b01, if_true, show ¬ (1 : Int32) = 0 by decide, if_false, ob1_e]
        rw [va_up_ne _ _ (by decide), va_up_ne _ _ (by decide), l4, c2.1 0]
        have : ∀ x y : Int32, x + y - x = y := fun x y => by rw [Int32.add_comm, Int32.add_sub_cancel]
        rw [this]
      · simp only [q, decide_false, b01, if_true, if_false, ob1_e, Bool.false_eq_true]
    · unfold mX4_restsIn
      rw [ob1_e, m_noJ (μ := pf μ 0 0) hS hR (pf00 _ _), ob2_e, hs, if_pos (by decide), if_neg (by decide), pf8, pfo _ _ 10 (by decide), d1, ob1_e, ob1_e, i0]
      rw [show loopM (fun st : Int32 × MS => mX4_restsIn_L28 F (nI j) st.1 st.2) F (nI 0, va_up (pf μ 0 (nI 0)) 10 f6) = some (nI d, μ') from l1, ob2_e, hrs, ob1_e, e1, ob1_e, ob1_e]
      by_cases q : (3 : Int32) ≤ runT (τs (sid 0)) (stJ j) 3000 σ3 5 j
      · simp only [q, decide_true, b01, if_true]
        rfl
      · simp only [q, decide_false, b01, if_true, if_false, Bool.false_eq_true]
        rfl
    · unfold mX4_thrown
      rw [va_up_ne _ _ (by decide), l3.2.1 0 (by decide), va_up_ne _ _ (by decide), pf00]
      rfl
    · intro x hx; cases hx; rfl
    · cases hx
      show HI _ τs n pa β υ (va_up (va_up ω 1 σ3) 1 (runT (τs (sid 0)) (stJ j) 3000 σ3)) (va_up sid 1 (sid 0)) _
      refine hI.fc (WRB_s B) (fun v hv => by rw [va_up_ne _ _ hv, va_up_ne _ _ hv]) (fun v hv => va_up_ne _ _ hv) (by rw [va_up_self]; exact hsid 0 (by decide)) (fun q q0 q8 q10 => ?_) (fun x hx => ?_)
      · rw [va_up_ne _ _ q8, l3.2.1 q q8, va_up_ne _ _ q10, pfo _ _ q q0]
      · rw [va_up_self, e2 x hx, h10, d2 x hx]
theorem in_nI {i : Int32} {lo hi : Int32} {a b : Nat} (hlo : lo = nI a) (hhi : hi = nI b) (ha : a < 2 ^ 31) (hb : b < 2 ^ 31) (h1 : ¬ i < lo) (h2 : ¬ hi < i) : ∃ q : Nat, a ≤ q ∧ q ≤ b ∧ i = nI q := by
  subst hlo hhi
  rw [ltI, nI_toInt ha] at h1
  rw [ltI, nI_toInt hb] at h2
  refine ⟨nv i, ?_, ?_, nI_nv (by omega)⟩ <;> unfold nv <;> omega
theorem p_stateAfter (hF : 5000 ≤ F) (hB0 : 0 ≤ B) (hB : B ≤ 2000000000) : ag_stateAfter F (HI (WRB B)) (HI (WRB B)) := by
  intro τs n pa β υ ω sid μ hI i i2
  obtain ⟨⟨hS, hR, hW⟩, hg⟩ := hI.now
  cases hs : outJ (τs (sid 0)) i with
  | true =>
    refine ⟨.inl "java/lang/IndexOutOfBoundsException", 0, pf μ 0 1, ?_, by simp, ?_, th0 _ _ _, (by simp), fun _ _ => hI.p0 _, fun _ h => (by cases h)⟩
    · unfold mX3_stateAfter; rw [c_ckJ hg, ift hs, obX_L]
    · unfold mX4_stateAfter
      rw [ob1_e, m_noJ (μ := pf μ 0 0) hS hR (pf00 _ _), ob2_e, hs, if_neg (by decide), if_pos rfl, pf0f]
  | false =>
    obtain ⟨j, hj, rfl⟩ := outJ_F hS hs
    have hc : (if i2 < 0 then some true else (if i2 ≤ (3000 : Int32) then some false else some true)) = some (outW i2 (nI 3001)) := by
      unfold outW
      by_cases h1 : i2 < 0
      · simp [h1]
      · have : i2 ≤ (3000 : Int32) ↔ i2 < nI 3001 := by
          rw [leI, ltI, show (3000 : Int32).toInt = 3000 from rfl, show (nI 3001).toInt = 3001 from rfl]; omega
        by_cases h2 : i2 < nI 3001
        · simp [h1, h2, this.mpr h2]
        · have : ¬ i2 ≤ (3000 : Int32) := fun q => h2 (this.mp q)
          simp [h1, h2, this]
    have hin := m_in (F := F) (m := 3001) (i := i2) (lo := 0) (hi := 3000) rfl rfl (by decide)
    cases hw : outW i2 (nI 3001) with
    | true =>
      refine ⟨.inl "java/lang/IllegalArgumentException", 0, pf μ 0 2, ?_, by simp, ?_, th0 _ _ _, (by simp), fun _ _ => hI.p0 _, fun _ h => (by cases h)⟩
      · unfold mX3_stateAfter; rw [c_ckJ hg, iff' hs, obX_R, hc, hw, ob1_e, cnd_T]
      · unfold mX4_stateAfter
        rw [ob1_e, m_noJ (μ := pf μ 0 0) hS hR (pf00 _ _), ob2_e, hs, if_pos (by decide), if_neg (by decide), hin, hw, ob1_e, b01_n, ob1_e, m_fails (pf00 _ _) (by decide), ob2_e, if_neg (by decide), if_pos rfl, pf0f]
    | false =>
      obtain ⟨t, ht, rfl⟩ := outW_F (m := 3001) rfl (by decide) hw
      have hsid := hI.2.2.1
      obtain ⟨σ3, c1, c2, -⟩ := copyFrom_c F (ω 0) (ω 1)
      have hW3 := hW.cpy c2
      have hrun := c_run (st := stJ j) (a := nI j) (n := t) hS hF st_J (by omega) (by decide) (by decide) (ck_J hS hj) hW3 (by omega)
      obtain ⟨f6, d1, d2⟩ := copy_fr hF (μ 8) (μ 10)
      have hM7 : MR (τs (sid 0)) σ3 (fun j => μ 8 (27 + 9 * j)) (va_up (pf μ 0 0) 10 f6) (va_up (pf μ 0 0) 10 f6) := mrOf (μ := va_up (pf μ 0 0) 10 f6) (hR.cpy c2)
      obtain ⟨d, μ', w', l1, l2, l3, l4⟩ := m_runL (st := stJ j) (F := F) (μ0 := va_up (pf μ 0 0) 10 f6) (f := fun x : Int32 × MS => mX4_stateAfter_L52 F (nI j) (nI t) x.1 x.2) (out := fun i μ => μ) (n := t) hS hF (by omega) (fun i σ B T μ w hi hW hM => by
        show mX4_stateAfter_L52 F (nI j) (nI t) (nI i) μ = _
        unfold mX4_stateAfter_L52
        by_cases q : i < t
        · rw [if_neg (nle (by omega) (by omega) q), m_rests hS hM hj, ob1_e]
          unfold stJ
          by_cases q2 : (3 : Int32) ≤ σ 5 j
          · rw [if_neg (by simp [b01, q2]), ob1_e, cnd_F, if_neg (by simp [q2])]
          · rw [if_pos (by simp [b01, q2]), ob1_e, cnd_T, if_pos ⟨q, by simp [q2]⟩]
        · have : i = t := by omega
          subst this
          rw [if_pos (Int32.le_refl _), ob1_e, cnd_F, if_neg (by omega)]) t 0 F σ3 B 9999 _ _ (Nat.zero_add t) (by omega) hW3 hM7 (by omega) (by omega)
      obtain ⟨f26, e1, e2⟩ := copy_fr hF (μ' 10) (μ' 8)
      have h10 : μ' 10 = f6 := by rw [l3.2.1 10 (by decide), va_up_self]
      refine ⟨.inr (runT (τs (sid 0)) (stJ j) t σ3 5 j, va_up (va_up ω 1 σ3) 1 (runT (τs (sid 0)) (stJ j) t σ3), va_up sid 1 (sid 0)), runT (τs (sid 0)) (stJ j) t σ3 5 j, va_up μ' 8 f26, ?_, by simp, ?_, ?_, ?_, fun _ h => (by cases h), fun x hx => ?_⟩
      · unfold mX3_stateAfter
        rw [c_ckJ hg, iff' hs, obX_R, hc, hw, ob1_e, cnd_F, gC_10 hsid, ob1_e, c1, ob1_e, ob1_e, ob1_e, gW_u (x := 0) hsid 1 (by decide), ob1_e, va_up_self, va_up_self, hrun, ob1_e, ob1_e, ob1_e, ob1_e, va_up_self, r8 hS hj, ob1_e]
      · unfold mX4_stateAfter
        rw [ob1_e, m_noJ (μ := pf μ 0 0) hS hR (pf00 _ _), ob2_e, hs, if_pos (by decide), if_neg (by decide), hin, hw, ob1_e, b01_n, ob1_e, m_fails (pf00 _ _) (by decide), ob2_e, if_pos (by decide), if_neg (by decide), pf8, pfo _ _ 10 (by decide), d1, ob1_e, ob1_e, i0]
        rw [show loopM (fun st : Int32 × MS => mX4_stateAfter_L52 F (nI j) (nI t) st.1 st.2) F (nI 0, va_up (pf μ 0 (nI 0)) 10 f6) = some μ' from l1, ob1_e]
        rw [show mX4_ofJourney F μ' (nI j) (nI 0) = some (runT (τs (sid 0)) (stJ j) t σ3 5 j) from l3.jst hS hj, ob1_e, e1, ob1_e, ob1_e]
      · unfold mX4_thrown
        rw [va_up_ne _ _ (by decide), l3.2.1 0 (by decide), va_up_ne _ _ (by decide), pf00]
        rfl
      · intro x hx; cases hx; rfl
      · cases hx
        show HI _ τs n pa β υ (va_up (va_up ω 1 σ3) 1 (runT (τs (sid 0)) (stJ j) t σ3)) (va_up sid 1 (sid 0)) _
        refine hI.fc (WRB_s B) (fun v hv => by rw [va_up_ne _ _ hv, va_up_ne _ _ hv]) (fun v hv => va_up_ne _ _ hv) (by rw [va_up_self]; exact hsid 0 (by decide)) (fun q q0 q8 q10 => ?_) (fun x hx => ?_)
        · rw [va_up_ne _ _ q8, l3.2.1 q q8, va_up_ne _ _ q10, pfo _ _ q q0]
        · rw [va_up_self, e2 x hx, h10, d2 x hx]
end FP
