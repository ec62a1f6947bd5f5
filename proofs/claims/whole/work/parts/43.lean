/-! pure: help -/
def Dn (τ σ : MS) (j k u : Nat) : Prop := runT τ (stJ j) 1100 (u2 σ 3 k (σ 3 k + nI u)) 5 j = 3
/-- the smallest of 0 to 999, or -1 -/
def Best (τ σ : MS) (j k : Nat) (r : Int32) : Prop := (∃ m, m ≤ 999 ∧ r = nI m ∧ Dn τ σ j k m ∧ ∀ u, u < m → ¬ Dn τ σ j k u) ∨ (r = -1 ∧ ∀ u, u ≤ 999 → ¬ Dn τ σ j k u)
theorem Best.uniq {τ σ : MS} {j k : Nat} {r r' : Int32} (h : Best τ σ j k r) (h' : Best τ σ j k r') : r = r' := by
  rcases h with ⟨m, a, b, c, d⟩ | ⟨a, b⟩ <;> rcases h' with ⟨m', a', b', c', d'⟩ | ⟨a', b'⟩
  · have : m = m' := by
      rcases (show m < m' ∨ m = m' ∨ m' < m by omega) with q | q | q
      · exact absurd c (d' m q)
      · exact q
      · exact absurd c' (d m' q)
    rw [b, b', this]
  · exact absurd c (b' m a)
  · exact absurd c' (b m' a')
  · rw [a, a']
theorem ret_ne {m : Nat} (h : m < 2 ^ 31) : nI m ≠ -1 := fun q => by
  have := congrArg Int32.toInt q
  rw [nI_toInt h] at this
  have e : (-1 : Int32).toInt = -1 := rfl
  omega
theorem WI.lev {τ σ : MS} {B B' T : Int} {k : Nat} {x : Int32} (h : WI B T τ σ) (hB : B ≤ B') (hx : bd x 0 B') : WI B' T τ (u2 σ 3 k x) := by
  have hW' := h.mono hB (Int.le_refl _)
  refine ⟨fun k9 hk9 => ?_, fun j hj => ⟨fun t9 t1 t2 => ?_, ?_⟩, ?_, fun i => ?_⟩
  · rw [u2_at]
    split
    · exact hx
    · exact hW'.1 k9 hk9
  · rw [u2_n _ _ _ _ 10 t9 (by omega), u2_n _ _ _ _ 9 t9 (by omega), u2_n _ _ _ _ 12 t9 (by omega), u2_n _ _ _ _ 1 0 (by omega)]
    exact (hW'.2.1 j hj).1 t9 t1 t2
  · have := (hW'.2.1 j hj).2
    unfold LJ at this ⊢
    rw [u2_n _ _ _ _ 5 j (by omega), u2_n _ _ _ _ 6 j (by omega), u2_n _ _ _ _ 8 j (by omega)]
    exact ⟨this.1, this.2.1, this.2.2.1, fun q => by obtain ⟨s, a, b, c⟩ := this.2.2.2 q; exact ⟨s, a, b, by rw [u2_n _ _ _ _ 9 s (by omega)]; exact c⟩⟩
  · rw [u2_n _ _ _ _ 1 0 (by omega)]; exact hW'.2.2.1
  · rw [u2_n _ _ _ _ 1 0 (by omega), u2_n _ _ _ _ 1 i (by omega)]; exact hW'.2.2.2 i
section HP
variable {F : Nat} {B : Int}
theorem m_helpL {τ σ : MS} {μ14 : MS} {j k : Nat} (hI : SI τ) (hF : 5000 ≤ F) (hB0 : 0 ≤ B) (hB : B ≤ 2000000000) (hW : WI B 9999 τ σ) (hj : j < Jn τ) (hk : k < Sn τ) (hR : Rel τ σ (μ14 8)) (h10 : ∀ x, x < 451 → μ14 10 x = μ14 8 x) : ok (loopM (fun st : Int32 × Int32 × MS => mX4_help_L39 F (nI j) (nI k) st.1 st.2.1 st.2.2) F ((0 : Int32), (-1 : Int32), μ14)) (fun r => Best τ σ j k r.1 ∧ (∀ q, q ≠ 8 → r.2 q = μ14 q) ∧ ∀ x, x < 451 → r.2 8 x = μ14 8 x) := by
  have hk6 := hI.k6 hk
  have hlv := hW.1 k hk
  obtain ⟨v1, v2⟩ := hlv
  refine ok_loop (f := fun st : Int32 × Int32 × MS => mX4_help_L39 F (nI j) (nI k) st.1 st.2.1 st.2.2) (fun a => ∃ m, a.1 = nI m ∧ m ≤ 1000 ∧ (∀ q, q ≠ 8 → a.2.2 q = μ14 q) ∧ (∀ x, x < 451 → a.2.2 8 x = μ14 8 x) ∧ ((a.2.1 = -1 ∧ ∀ u, u < m → ¬ Dn τ σ j k u) ∨ (1 ≤ m ∧ a.2.1 = nI (m - 1) ∧ Dn τ σ j k (m - 1) ∧ ∀ u, u < m - 1 → ¬ Dn τ σ j k u))) (fun a => 1001 - nv a.1) (fun a hP => ?_) F _ ⟨0, rfl, by omega, fun _ _ => rfl, fun _ _ => rfl, Or.inl ⟨rfl, fun u hu => absurd hu (by omega)⟩⟩ (by show 1001 - nv (nI 0) < F; rw [nv_nI (by decide)]; omega)
  obtain ⟨va, vr, μ17⟩ := a
  obtain ⟨m, zm, hm2, zq, z8, hcase⟩ := hP
  have hm : va = nI m := zm
  have hq : ∀ q, q ≠ 8 → μ17 q = μ14 q := zq
  have h8 : ∀ x, x < 451 → μ17 8 x = μ14 8 x := z8
  clear zm zq z8
  subst hm
  show ok (mX4_help_L39 F (nI j) (nI k) (nI m) vr μ17) _
  rcases hcase with ⟨zr, hnone⟩ | ⟨h1, zr, hD, hbest⟩
  · have hr : vr = -1 := zr
    clear zr
    subst hr
    by_cases hmx : m = 1000
    · subst hmx
      unfold mX4_help_L39
      rw [if_pos (by decide), ob1_e, cnd_F]
      exact ok_some (Or.inl ⟨_, rfl, Or.inr ⟨rfl, fun u hu => hnone u (by omega)⟩, hq, h8⟩)
    · have hM : MR τ σ (fun i => μ17 8 (27 + 9 * i)) μ17 μ17 := mrOf (hR.d451 hI h8)
      have hl := (hM.level (v := σ 3 k + nI m) hI hk)
      have en : (nI m).toInt = m := nI_toInt (by omega)
      have hWm : WI (B + 999) 9999 τ (u2 σ 3 k (σ 3 k + nI m)) := hW.lev (by omega) (by unfold bd; rw [aI (by omega) (by omega), en]; omega)
      obtain ⟨d, μ', w', l1, l2, l3, l4⟩ := m_runL (st := stJ j) (F := F) (μ0 := μ17) (f := fun x : Int32 × MS => mX4_help_L73 F (nI m) (-1) (nI j) (nI k) x.1 x.2) (out := fun i μ => μ) (n := 1100) hI hF (by omega) (fun i σ B T μ w hi hW hM => by
        show mX4_help_L73 F (nI m) (-1) (nI j) (nI k) (nI i) μ = _
        unfold mX4_help_L73
        by_cases q : i < 1100
        · rw [if_neg (i32_nle (c := 1100) (b := 1100) rfl (by omega) (by decide) q), m_rests hI hM hj, ob1_e]
          unfold stJ
          by_cases q2 : (3 : Int32) ≤ σ 5 j
          · rw [if_neg (by simp [b01, q2]), ob1_e, cnd_F, if_neg (by simp [q2])]
          · rw [if_pos (by simp [b01, q2]), ob1_e, cnd_T, if_pos ⟨q, by simp [q2]⟩]
        · have : i = 1100 := by omega
          subst this
          rw [if_pos (by decide), ob1_e, cnd_F, if_neg (by omega)]) 1100 0 F _ (B + 999) 9999 _ _ rfl (by omega) hWm hl (by omega) (by omega)
      obtain ⟨f49, e1, e2⟩ := copy_fr hF (μ' 10) (μ' 8)
      have h10' : μ' 10 = μ14 10 := by rw [l3.2.1 10 (by decide), hq 10 (by decide)]
      unfold mX4_help_L39
      rw [if_neg (show ¬ (999 : Int32) < nI m from fun q => absurd ((nI_ltI (a := 999) (by decide) (by omega)).mp q) (by omega)), if_pos rfl, ob1_e, cnd_T, rK0 hk6, (hM.rk hk).1, ob1_e, wK0 hk6, ob1_e]
      rw [show loopM (fun st : Int32 × MS => mX4_help_L73 F (nI m) (-1) (nI j) (nI k) st.1 st.2) F ((0 : Int32), u2 μ17 8 (7 + 2 * k) (σ 3 k + nI m)) = some μ' from l1, ob1_e]
      rw [l3.jst hI hj, ob1_e, e1, nI_s]
      have hfr : ∀ q, q ≠ 8 → va_up μ' 8 f49 q = μ14 q := fun q q8 => by rw [va_up_ne _ _ q8, l3.2.1 q q8, hq q q8]
      have hf8 : ∀ x, x < 451 → va_up μ' 8 f49 8 x = μ14 8 x := fun x hx => by rw [va_up_self, e2 x hx, h10', h10 x hx]
      have hmeas : 1001 - nv (nI (m + 1)) < 1001 - nv (nI m) := by rw [nv_nI (by omega), nv_nI (by omega)]; omega
      by_cases hD : runT τ (stJ j) 1100 (u2 σ 3 k (σ 3 k + nI m)) 5 j = 3
      · rw [if_pos hD, ob1_e, ob1_e, ob1_e]
        exact ok_some (Or.inr ⟨_, rfl, ⟨m + 1, rfl, by omega, hfr, hf8, Or.inr ⟨by omega, by rw [Nat.add_sub_cancel], by rw [Nat.add_sub_cancel]; exact hD, by rw [Nat.add_sub_cancel]; exact hnone⟩⟩, hmeas⟩)
      · rw [if_neg hD, ob1_e, ob1_e, ob1_e]
        refine ok_some (Or.inr ⟨_, rfl, ⟨m + 1, rfl, by omega, hfr, hf8, Or.inl ⟨rfl, fun u hu => ?_⟩⟩, hmeas⟩)
        by_cases q : u = m
        · subst q; exact hD
        · exact hnone u (by omega)
  · have hr : vr = nI (m - 1) := zr
    clear zr
    subst hr
    have : mX4_help_L39 F (nI j) (nI k) (nI m) (nI (m - 1)) μ17 = some (.inl (nI (m - 1), μ17)) := by
      unfold mX4_help_L39
      by_cases q : (999 : Int32) < nI m
      · rw [if_pos q, ob1_e, cnd_F]
      · rw [if_neg q, if_neg (ret_ne (by omega)), ob1_e, cnd_F]
    rw [this]
    exact ok_some (Or.inl ⟨_, rfl, Or.inl ⟨m - 1, by omega, rfl, hD, hbest⟩, hq, h8⟩)
theorem c_helpL {τs : WS} {n : Nat} {pa : PA} {β : FS} {υ : MS} {ω : WS} {sid : PA} {j k : Nat} (hI : SI (τs (sid 0))) (hF : 5000 ≤ F) (hB0 : 0 ≤ B) (hB : B ≤ 2000000000) (hW : WI B 9999 (τs (sid 0)) (ω 0)) (hj : j < Jn (τs (sid 0))) (hk : k < Sn (τs (sid 0))) (hs : ∀ v, v < 10 → sid v < n) : ok (loopM (fun st : Int32 × WS × PA => mX3_help_L12 F τs n (nI j) (nI k) pa β υ st.1 st.2.1 st.2.2) F ((0 : Int32), ω, sid)) (fun r => ∃ ω' sid', ((∃ m, r = .inl (.inr (m, ω', sid')) ∧ Best (τs (sid 0)) (ω 0) j k m) ∨ (r = .inr (ω', sid') ∧ Best (τs (sid 0)) (ω 0) j k (-1))) ∧ (∀ v, v ≠ 1 → ω' v = ω v) ∧ (∀ v, v ≠ 1 → sid' v = sid v) ∧ sid' 1 < n) := by
  have hlv := hW.1 k hk
  obtain ⟨v1, v2⟩ := hlv
  refine ok_loop (f := fun st : Int32 × WS × PA => mX3_help_L12 F τs n (nI j) (nI k) pa β υ st.1 st.2.1 st.2.2) (fun a => ∃ m, a.1 = nI m ∧ m ≤ 2000000 ∧ (∀ u, u < m → u ≤ 999 → ¬ Dn (τs (sid 0)) (ω 0) j k u) ∧ (∀ v, v ≠ 1 → a.2.1 v = ω v) ∧ (∀ v, v ≠ 1 → a.2.2 v = sid v) ∧ a.2.2 1 < n) (fun a => 1001 - nv a.1) (fun a hP => ?_) F _ ⟨0, rfl, by omega, fun u hu => absurd hu (by omega), fun _ _ => rfl, fun _ _ => rfl, hs 1 (by decide)⟩ (by show 1001 - nv (nI 0) < F; rw [nv_nI (by decide)]; omega)
  obtain ⟨va, ω7, sid8⟩ := a
  obtain ⟨m, zm, hm2, hnone, zω, zsd, zs1⟩ := hP
  have hm : va = nI m := zm
  have hω : ∀ v, v ≠ 1 → ω7 v = ω v := zω
  have hsd : ∀ v, v ≠ 1 → sid8 v = sid v := zsd
  have hs1 : sid8 1 < n := zs1
  clear zm zω zsd zs1
  have hs8 : ∀ v, v < 10 → sid8 v < n := fun v hv => by
    by_cases q : v = 1
    · rw [q]; exact hs1
    · rw [hsd v q]; exact hs v hv
  subst hm
  show ok (mX3_help_L12 F τs n (nI j) (nI k) pa β υ (nI m) ω7 sid8) _
  by_cases hmx : m ≤ 999
  · obtain ⟨σ13, c1, c2, c3⟩ := copyFrom_c F (ω7 0) (ω7 1)
    rw [hω 0 (by decide)] at c2
    have e3 : σ13 3 k = ω 0 3 k := by rw [c2.2.2 3 (by decide)]
    have en : (nI m).toInt = m := nI_toInt (by omega)
    have hW13 := hW.cpy c2
    have hWm : WI (B + 999) 9999 (τs (sid 0)) (u2 σ13 3 k (σ13 3 k + nI m)) := hW13.lev (by omega) (by rw [e3]; unfold bd; rw [aI (by omega) (by omega), en]; omega)
    have hrun := c_run (st := stJ j) (a := nI j) (n := 1100) hI hF st_J (by decide) (by decide) (by decide) (ck_J hI hj) hWm (by omega)
    -- the shift from this run to the run with u more
    have hsh : ∀ δ : Nat, δ ≤ 999 → Sh k (nI δ) (u2 σ13 3 k (σ13 3 k + nI m)) (u2 (ω 0) 3 k (ω 0 3 k + nI (m + δ))) := fun δ hδ => by
      obtain ⟨d1, d2, d3⟩ := c2
      refine ⟨fun i => ?_, ?_, fun c i hc => ?_, ?_⟩
      · rw [u2_n _ _ _ _ 1 i (by omega), u2_n _ _ _ _ 1 i (by omega), d1, hW.2.2.2 i]
      · rw [u2_n _ _ _ _ 2 0 (by omega), u2_n _ _ _ _ 2 0 (by omega), d2]
      · rw [u2_n _ _ _ _ c i (by omega), u2_n _ _ _ _ c i (by omega), d3 c (by omega)]
      · rw [u2_s, u2_s, e3, ← nI_a, ← Int32.add_assoc]
    have hD : ∀ δ : Nat, δ ≤ 999 → Lk k (nI δ) (runT (τs (sid 0)) (stJ j) 1100 (u2 σ13 3 k (σ13 3 k + nI m))) → (Dn (τs (sid 0)) (ω 0) j k (m + δ) ↔ runT (τs (sid 0)) (stJ j) 1100 (u2 σ13 3 k (σ13 3 k + nI m)) 5 j = 3) := fun δ hδ hl => by
      have := run_sh (j := j) hI (δ := nI δ) (by rw [nI_toInt (by omega)]; omega) 1100 _ _ (B + 999) 9999 (by omega) (by omega) hWm (hsh δ hδ) hl
      unfold Dn
      rw [this.c (c := 5) (by decide)]
    have hlk : (runT (τs (sid 0)) (stJ j) 1100 (u2 σ13 3 k (σ13 3 k + nI m)) 4 k).toInt ≤ 1000000 := by
      have := run_le (k := k) (st := stJ j) hI 1100 (u2 σ13 3 k (σ13 3 k + nI m))
      rw [u2_n _ _ _ _ 4 k (by omega), c3] at this
      exact this
    have h0 := hD 0 (by omega) (Or.inl rfl)
    rw [Nat.add_zero] at h0
    generalize hσr : runT (τs (sid 0)) (stJ j) 1100 (u2 σ13 3 k (σ13 3 k + nI m)) = σr at hrun hD hlk h0
    unfold mX3_help_L12
    rw [if_neg (show ¬ (999 : Int32) < nI m from fun q => absurd ((nI_ltI (a := 999) (by decide) (by omega)).mp q) (by omega)), gC_10 hs8, ob1_e, c1, ob1_e, ob1_e, ob1_e, gW_u (x := 0) hs8 1 (by decide)]
    simp only [ob1_e, va_up_self]
    rw [r6 hI hk]
    simp only [ob1_e]
    rw [w6 hI hk]
    simp only [ob1_e, va_up_self]
    rw [hsd 0 (by decide), show (1100 : Int32) = nI 1100 from rfl, hrun]
    simp only [ob1_e, va_up_self]
    rw [r8 hI hj, ob1_e]
    have hfr : ∀ v, v ≠ 1 → va_up (va_up (va_up ω7 1 σ13) 1 (u2 σ13 3 k (σ13 3 k + nI m))) 1 σr v = ω v := fun v hv => by rw [va_up_ne _ _ hv, va_up_ne _ _ hv, va_up_ne _ _ hv, hω v hv]
    have hfs : ∀ v, v ≠ 1 → va_up sid8 1 (sid 0) v = sid v := fun v hv => by rw [va_up_ne _ _ hv, hsd v hv]
    have hf1 : va_up sid8 1 (sid 0) 1 < n := by rw [va_up_self]; exact hs 0 (by decide)
    by_cases h3 : σr 5 j = 3
    · rw [if_pos h3]
      exact ok_some (Or.inl ⟨_, rfl, _, _, Or.inl ⟨_, rfl, Or.inl ⟨m, hmx, rfl, h0.mpr h3, fun u hu => hnone u hu (by omega)⟩⟩, hfr, hfs, hf1⟩)
    · rw [if_neg h3, r6 hI hk, ob1_e]
      have hq : ∃ q : Nat, (if (1 : Int32) < σr 4 k then σr 4 k else 1) = nI q ∧ 1 ≤ q ∧ q ≤ 1000000 ∧ ∀ δ : Nat, 1 ≤ δ → δ < q → (δ : Int) < (σr 4 k).toInt := by
        by_cases hl : (1 : Int32) < σr 4 k
        · rw [if_pos hl]
          rw [ltI, show (1 : Int32).toInt = 1 from rfl] at hl
          refine ⟨nv (σr 4 k), nI_nv (by omega), ?_, ?_, fun δ _ hδ => ?_⟩ <;> unfold nv at * <;> omega
        · rw [if_neg hl]
          exact ⟨1, rfl, Nat.le_refl _, by omega, fun δ h1 h2 => absurd h1 (by omega)⟩
      obtain ⟨q, hq1, hq2, hq3, hq4⟩ := hq
      rw [hq1, nI_a]
      refine ok_some (Or.inr ⟨_, rfl, ⟨m + q, rfl, by omega, fun u hu hu9 => ?_, hfr, hfs, hf1⟩, ?_⟩)
      · rcases (show u < m ∨ u = m ∨ m < u by omega) with c | c | c
        · exact hnone u c hu9
        · subst c; exact fun q => h3 (h0.mp q)
        · have := hD (u - m) (by omega) (Or.inr (by rw [nI_toInt (by omega)]; exact hq4 (u - m) (by omega) (by omega)))
          rw [show m + (u - m) = u by omega] at this
          exact fun q => h3 (this.mp q)
      · show 1001 - nv (nI (m + q)) < 1001 - nv (nI m)
        rw [nv_nI (by omega), nv_nI (by omega)]; omega
  · unfold mX3_help_L12
    rw [if_pos (show (999 : Int32) < nI m from (nI_ltI (a := 999) (by decide) (by omega)).mpr (by omega))]
    exact ok_some (Or.inl ⟨_, rfl, ω7, sid8, Or.inr ⟨rfl, Or.inr ⟨rfl, fun u hu => hnone u (by omega) hu⟩⟩, hω, hsd, hs1⟩)
theorem p_help (hF : 5000 ≤ F) (hB0 : 0 ≤ B) (hB : B ≤ 2000000000) : ag_help F (HI (WRB B)) (HI (WRB B)) := by
  intro τs n pa β υ ω sid μ hI i i2
  obtain ⟨⟨hS, hR, hW⟩, hg⟩ := hI.now
  cases hs : outJ (τs (sid 0)) i with
  | true =>
    refine ⟨.inl "java/lang/IndexOutOfBoundsException", 0, pf μ 0 1, ?_, by simp, ?_, th0 _ _ _, (by simp), fun _ _ => hI.p0 _, fun _ h => (by cases h)⟩
    · unfold mX3_help; rw [c_ckJ hg, ift hs, obX_L]
    · unfold mX4_help
      rw [ob1_e, m_noJ (μ := pf μ 0 0) hS hR (pf00 _ _), ob2_e, hs, if_neg (by decide), ob2_e, cnd_T, if_pos rfl, pf0f]
  | false =>
    obtain ⟨j, hj, rfl⟩ := outJ_F hS hs
    cases hs2 : outS (τs (sid 0)) i2 with
    | true =>
      refine ⟨.inl "java/lang/IndexOutOfBoundsException", 0, pf μ 0 1, ?_, by simp, ?_, th0 _ _ _, (by simp), fun _ _ => hI.p0 _, fun _ h => (by cases h)⟩
      · unfold mX3_help; rw [c_ckJ hg, iff' hs, obX_R, c_ckS hg, ift hs2, obX_L]
      · unfold mX4_help
        rw [ob1_e, m_noJ (μ := pf μ 0 0) hS hR (pf00 _ _), ob2_e, hs, if_pos (by decide), iff' rfl, m_noS (μ := pf μ 0 0) hS hR (pf00 _ _), ob2_e, hs2, if_neg (by decide), ob2_e, cnd_T, if_pos rfl, pf0f]
    | false =>
      obtain ⟨k, hk, rfl⟩ := outS_F hS hs2
      obtain ⟨f13, d1, d2⟩ := copy_fr hF (μ 8) (μ 10)
      obtain ⟨r, l1, l2, l3, l4⟩ := m_helpL (F := F) (μ14 := va_up (pf μ 0 0) 10 f13) hS hF hB0 hB hW hj hk hR (fun x hx => d2 x hx)
      obtain ⟨rc, c1, ω', sid', c2, c3, c4, c5⟩ := c_helpL (F := F) (pa := pa) (β := β) (υ := υ) hS hF hB0 hB hW hj hk hI.2.2.1
      have hans : mX3_help F τs n pa β υ ω sid (nI j) (nI k) = some (.inr (r.1, ω', sid')) := by
        unfold mX3_help
        rw [c_ckJ hg, iff' hs, obX_R, c_ckS hg, iff' hs2, obX_R, c1, ob1_e]
        rcases c2 with ⟨m, rfl, hb⟩ | ⟨rfl, hb⟩
        · rw [show m = r.1 from hb.uniq l2]; rfl
        · rw [show r.1 = -1 from l2.uniq hb]; rfl
      refine ⟨.inr (r.1, ω', sid'), r.1, r.2, hans, by simp, ?_, ?_, ?_, fun _ h => (by cases h), fun x hx => ?_⟩
      · unfold mX4_help
        rw [ob1_e, m_noJ (μ := pf μ 0 0) hS hR (pf00 _ _), ob2_e, hs, if_pos (by decide), iff' rfl, m_noS (μ := pf μ 0 0) hS hR (pf00 _ _), ob2_e, hs2, if_pos (by decide), iff' rfl, ob2_e, cnd_F, pf8, pfo _ _ 10 (by decide), d1, ob1_e, ob1_e, l1]
        rfl
      · unfold mX4_thrown
        rw [l3 0 (by decide), va_up_ne _ _ (by decide), pf00]
        rfl
      · intro x hx; cases hx; rfl
      · cases hx
        show HI _ τs n pa β υ ω' sid' _
        refine hI.fc (WRB_s B) c3 c4 c5 (fun q q0 q8 q10 => ?_) (fun x hx => ?_)
        · rw [l3 q q8, va_up_ne _ _ q10, pfo _ _ q q0]
        · rw [l4 x hx]; rfl
end HP
