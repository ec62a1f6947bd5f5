/-! pure: the changes, on the class's side -/
theorem runT_e {τ : MS} : ∀ (k : Nat) (σ : MS), runT τ stN (k + 1) σ = tickF τ (runT τ stN k σ) := by
  intro k
  induction k with
  | zero => intro σ; rfl
  | succ k ih =>
    intro σ
    show runT τ stN (k + 1) (tickF τ σ) = _
    rw [ih]
    rfl
theorem run_RI {τ : MS} (hI : SI τ) : ∀ (k : Nat) (σ : MS), RI τ σ → RI τ (runT τ stN k σ) := by
  intro k
  induction k with
  | zero => intro σ h; exact h
  | succ k ih =>
    intro σ h
    rw [runT_e]
    exact RI_tick hI (ih σ h)
section CC
variable {τ : MS} {F u n : Nat} {τs : WS} {pa : PA} {β : FS} {υ : MS} {ω : WS} {sid : PA} {B T : Int} {j k a : Nat}
theorem o_J (hI : SI (τs (sid 0))) (hj : j < Jn (τs (sid 0))) : outJ (τs (sid 0)) (nI j) = false := by have := hI.J; unfold outJ; rw [this.1]; exact outW_i hj (by omega)
theorem o_JX (hI : SI (τs (sid 0))) : outJ (τs (sid 0)) (nI (Jn (τs (sid 0)))) = true := by
  have h := hI.J
  show outW (nI (Jn (τs (sid 0)))) (τs (sid 0) 5 0) = true
  rw [h.1]
  exact outW_o (Nat.le_refl _) (by omega)
theorem o_S (hI : SI (τs (sid 0))) (hk : k < Sn (τs (sid 0))) : outS (τs (sid 0)) (nI k) = false := by have := hI.S; unfold outS; rw [this.1]; exact outW_i hk (by omega)
theorem o_SX (hI : SI (τs (sid 0))) : outS (τs (sid 0)) (nI (Sn (τs (sid 0)))) = true := by
  have h := hI.S
  show outW (nI (Sn (τs (sid 0)))) (τs (sid 0) 2 0) = true
  rw [h.1]
  exact outW_o (Nat.le_refl _) (by omega)
theorem c_restX (hg : gW sid n 0 = some ()) (hI : SI (τs (sid 0))) (x : Int32) : mX3_restock F τs n pa β υ ω sid (nI (Sn (τs (sid 0)))) x = some (.inl "java/lang/IndexOutOfBoundsException") := by
  unfold mX3_restock
  rw [c_ckS hg, ift (o_SX hI), obX_L]
theorem c_restA (hg : gW sid n 0 = some ()) (hI : SI (τs (sid 0))) (hk : k < Sn (τs (sid 0))) (ha : a < 2 ^ 31) (hx : ¬ (1 ≤ a ∧ a ≤ 999)) : mX3_restock F τs n pa β υ ω sid (nI k) (nI a) = some (.inl "java/lang/IllegalArgumentException") := by
  unfold mX3_restock
  rw [c_ckS hg, iff' (o_S hI hk), obX_R]
  by_cases h1 : nI a < (1 : Int32)
  · rw [if_pos h1]; rfl
  · have h2 : ¬ nI a ≤ (999 : Int32) := by
      intro q
      rw [ltI, nI_toInt ha, show (1 : Int32).toInt = 1 from rfl] at h1
      rw [leI, nI_toInt ha, show (999 : Int32).toInt = 999 from rfl] at q
      exact hx ⟨by omega, by omega⟩
    rw [if_neg h1, if_neg h2]; rfl
theorem c_restR (hs : SDok sid n) (hI : SI (τs (sid 0))) (hk : k < Sn (τs (sid 0))) (h1 : 1 ≤ a) (h2 : a ≤ 999) {pa1 : PA} {υ1 : MS} {ω1 : WS} {sid1 : PA} (hr : mX3_remember F τs n pa β υ ω sid = some (pa1, υ1, ω1, sid1)) (hRM : RM n u pa υ ω sid pa1 υ1 ω1 sid1) : mX3_restock F τs n pa β υ ω sid (nI k) (nI a) = some (.inr (ω 0 3 k + nI a, pa1, υ1, va_up ω1 0 (u2 (ω 0) 3 k (ω 0 3 k + nI a)), sid1)) := by
  have hg := hs.g
  obtain ⟨u1, b1, b2, b3, b4, b5, b6, b7, g4, g5, -⟩ := hRM
  have hg1 := b6.g
  have h3 : ¬ nI a < (1 : Int32) := by rw [ltI, nI_toInt (by omega), show (1 : Int32).toInt = 1 from rfl]; omega
  have h4 : nI a ≤ (999 : Int32) := by rw [leI, nI_toInt (by omega), show (999 : Int32).toInt = 999 from rfl]; omega
  unfold mX3_restock
  rw [c_ckS hg, iff' (o_S hI hk), obX_R, if_neg h3, if_pos h4, ob1_e, cnd_F, hr, ob4_e, hg1]
  simp only [ob1_e]
  rw [g4, r6 hI hk]
  simp only [ob1_e]
  rw [w6 hI hk]
  simp only [ob1_e, va_up_self]
  rw [r6 hI hk, ob1_e, u2_s]
theorem c_setX (hg : gW sid n 0 = some ()) (hI : SI (τs (sid 0))) : mX3_settle F τs n pa β υ ω sid (nI (Jn (τs (sid 0)))) = some (.inl "java/lang/IndexOutOfBoundsException") := by
  unfold mX3_settle
  rw [c_ckJ hg, ift (o_JX hI), obX_L]
theorem c_setS (hg : gW sid n 0 = some ()) (hI : SI (τs (sid 0))) (hj : j < Jn (τs (sid 0))) (h5 : ¬ ω 0 5 j = 5) : mX3_settle F τs n pa β υ ω sid (nI j) = some (.inl "java/lang/IllegalStateException") := by
  unfold mX3_settle
  rw [c_ckJ hg, iff' (o_J hI hj), obX_R, c_ckP hg hI hj, if_neg h5, obX_L]
theorem c_wrX (hg : gW sid n 0 = some ()) (hI : SI (τs (sid 0))) : mX3_writeOff F τs n pa β υ ω sid (nI (Jn (τs (sid 0)))) = some (.inl "java/lang/IndexOutOfBoundsException") := by
  unfold mX3_writeOff
  rw [c_ckJ hg, ift (o_JX hI), obX_L]
theorem c_wrS (hg : gW sid n 0 = some ()) (hI : SI (τs (sid 0))) (hj : j < Jn (τs (sid 0))) (h5 : ¬ ω 0 5 j = 5) : mX3_writeOff F τs n pa β υ ω sid (nI j) = some (.inl "java/lang/IllegalStateException") := by
  unfold mX3_writeOff
  rw [c_ckJ hg, iff' (o_J hI hj), obX_R, c_ckP hg hI hj, if_neg h5, obX_L]
theorem c_goX (hg : gW sid n 0 = some ()) (hI : SI (τs (sid 0))) : mX3_goForward F τs n pa β υ ω sid (nI (Jn (τs (sid 0)))) = some (.inl "java/lang/IndexOutOfBoundsException") := by
  unfold mX3_goForward
  rw [c_ckJ hg, ift (o_JX hI), obX_L]
theorem c_goS (hg : gW sid n 0 = some ()) (hI : SI (τs (sid 0))) (hj : j < Jn (τs (sid 0))) (h5 : ¬ ω 0 5 j = 5) : mX3_goForward F τs n pa β υ ω sid (nI j) = some (.inl "java/lang/IllegalStateException") := by
  unfold mX3_goForward
  rw [c_ckJ hg, iff' (o_J hI hj), obX_R, c_ckP hg hI hj, if_neg h5, obX_L]
theorem c_setR (hs : SDok sid n) (hI : SI (τs (sid 0))) (hj : j < Jn (τs (sid 0))) (h5 : ω 0 5 j = 5) {pa1 : PA} {υ1 : MS} {ω1 : WS} {sid1 : PA} (hr : mX3_remember F τs n pa β υ ω sid = some (pa1, υ1, ω1, sid1)) (hRM : RM n u pa υ ω sid pa1 υ1 ω1 sid1) {r : Int32} {σ' : MS} (hq : mX2_putLastStepAway F (τs (sid 0)) (ω 0) (nI j) 5 = some (r, σ')) : mX3_settle F τs n pa β υ ω sid (nI j) = some (.inr (r, pa1, υ1, va_up ω1 0 σ', sid1)) := by
  have hg := hs.g
  obtain ⟨u1, b1, b2, b3, b4, b5, b6, b7, g4, g5, -⟩ := hRM
  unfold mX3_settle
  rw [c_ckJ hg, iff' (o_J hI hj), obX_R, c_ckP hg hI hj, if_pos h5, obX_R, hr, ob4_e, b6.g, ob1_e, g5, g4, hq, ob2_e, ob1_e]
theorem c_wrR (hs : SDok sid n) (hI : SI (τs (sid 0))) (hj : j < Jn (τs (sid 0))) (h5 : ω 0 5 j = 5) {pa1 : PA} {υ1 : MS} {ω1 : WS} {sid1 : PA} (hr : mX3_remember F τs n pa β υ ω sid = some (pa1, υ1, ω1, sid1)) (hRM : RM n u pa υ ω sid pa1 υ1 ω1 sid1) {r : Int32} {σ' : MS} (hq : mX2_putLastStepAway F (τs (sid 0)) (ω 0) (nI j) 6 = some (r, σ')) : mX3_writeOff F τs n pa β υ ω sid (nI j) = some (.inr (r, pa1, υ1, va_up ω1 0 σ', sid1)) := by
  have hg := hs.g
  obtain ⟨u1, b1, b2, b3, b4, b5, b6, b7, g4, g5, -⟩ := hRM
  unfold mX3_writeOff
  rw [c_ckJ hg, iff' (o_J hI hj), obX_R, c_ckP hg hI hj, if_pos h5, obX_R, hr, ob4_e, b6.g, ob1_e, g5, g4, hq, ob2_e, ob1_e]
theorem c_goR (hs : SDok sid n) (hI : SI (τs (sid 0))) (hj : j < Jn (τs (sid 0))) (h5 : ω 0 5 j = 5) {pa1 : PA} {υ1 : MS} {ω1 : WS} {sid1 : PA} (hr : mX3_remember F τs n pa β υ ω sid = some (pa1, υ1, ω1, sid1)) (hRM : RM n u pa υ ω sid pa1 υ1 ω1 sid1) {r : Int32} {σ' : MS} (hq : mX2_letGoForward F (τs (sid 0)) (ω 0) (nI j) = some (r, σ')) : mX3_goForward F τs n pa β υ ω sid (nI j) = some (.inr (r, pa1, υ1, va_up ω1 0 σ', sid1)) := by
  have hg := hs.g
  obtain ⟨u1, b1, b2, b3, b4, b5, b6, b7, g4, g5, -⟩ := hRM
  unfold mX3_goForward
  rw [c_ckJ hg, iff' (o_J hI hj), obX_R, c_ckP hg hI hj, if_pos h5, obX_R, hr, ob4_e, b6.g, ob1_e, g5, g4, hq, ob2_e, ob1_e]
theorem c_passA : mX3_pass F τs n pa β υ ω sid (nI 0) = some (.inl "java/lang/IllegalArgumentException") := by
  unfold mX3_pass
  rw [if_pos (by decide)]; rfl
theorem c_passR (hF : 5000 ≤ F) (hs : SDok sid n) (hI : SI (τs (sid 0))) {t : Nat} (h1 : 1 ≤ t) (h2 : t ≤ 200) (hW : WI B T (τs (sid 0)) (ω 0)) (hB0 : 0 ≤ B) (hB : B ≤ 2000000000) (hT : T + t ≤ 9999) {pa1 : PA} {υ1 : MS} {ω1 : WS} {sid1 : PA} (hr : mX3_remember F τs n pa β υ ω sid = some (pa1, υ1, ω1, sid1)) (hRM : RM n u pa υ ω sid pa1 υ1 ω1 sid1) : mX3_pass F τs n pa β υ ω sid (nI t) = some (.inr ((jin (τs (sid 0)) (runT (τs (sid 0)) stN t (ω 0)) 3 + jin (τs (sid 0)) (runT (τs (sid 0)) stN t (ω 0)) 4) - (jin (τs (sid 0)) (ω 0) 3 + jin (τs (sid 0)) (ω 0) 4), pa1, υ1, va_up ω1 0 (runT (τs (sid 0)) stN t (ω 0)), sid1)) := by
  have hg := hs.g
  obtain ⟨u1, b1, b2, b3, b4, b5, b6, b7, g4, g5, -⟩ := hRM
  have en : (nI t).toInt = t := nI_toInt (by omega)
  obtain ⟨t1, t2⟩ := hW.2.2.1
  have h3 : ¬ nI t < (1 : Int32) := by rw [ltI, en, show (1 : Int32).toInt = 1 from rfl]; omega
  have h4 : ¬ (200 : Int32) < nI t := by rw [ltI, en, show (200 : Int32).toInt = 200 from rfl]; omega
  have h5 : ω 0 1 0 + nI t ≤ (9999 : Int32) := by rw [leI, aI (by omega) (by omega), en, show (9999 : Int32).toInt = 9999 from rfl]; omega
  have hrun := c_run (st := stN) (a := -1) (n := t) hI hF st_N (by omega) (by omega) (by omega) (ck_N hF) hW (by omega)
  unfold mX3_pass
  rw [if_neg h3, if_neg h4, hg, ob1_e, if_pos h5, ob1_e, cnd_F, hr, ob4_e, b6.g, ob1_e, g5, g4, c_ended2 hI hF, ob1_e, ob1_e, hrun, ob1_e, ob1_e, ob1_e, va_up_self, c_ended2 hI hF, ob1_e]
end CC
/-- a parked journey goes forward: the class's answer and world -/
theorem fwd {τ σ : MS} {F j : Nat} {B T : Int} (hI : SI τ) (hF : 5000 ≤ F) (hR16 : R16 τ) (hW : WI B T τ σ) (hRI : RI τ σ) (hj : j < Jn τ) : (mX2_letGoForward F τ σ (nI j) = some (-1, σ) ∧ ∀ v, v < Cn τ j → overP τ σ j (nI v) = true) ∨ ∃ g, g < Cn τ j ∧ (∀ v, v < g → overP τ σ j (nI v) = true) ∧ overP τ σ j (nI g) = false ∧ (∀ t, An τ j ≤ t → t < En τ j → opn σ t = true → g ≤ Gn τ t) ∧ mX2_letGoForward F τ σ (nI j) = some (nI g, entF τ j (nI g) (u2 (fo (agF τ) (An τ j) (En τ j - An τ j) σ) 5 j 1)) ∧ WI B T τ (entF τ j (nI g) (u2 (fo (agF τ) (An τ j) (En τ j - An τ j) σ) 5 j 1)) ∧ RI τ (entF τ j (nI g) (u2 (fo (agF τ) (An τ j) (En τ j - An τ j) σ) 5 j 1)) := by
  have hC := hI.C hj
  have hA := hI.A hj
  have hN := hI.N.2
  obtain ⟨r, c1, c2⟩ := c_fos (F := F) (σ := σ) hI hj hF
  rcases c2 with ⟨rfl, hall⟩ | ⟨s, s1, s2, s3, rfl, s4⟩
  · left
    refine ⟨?_, fun v hv => (overP_T hI hj (by omega)).mpr (fun s a b _ => hall s a b)⟩
    unfold mX2_letGoForward
    rw [c1, ob1_e, if_neg (by decide)]
  · right
    have hGs := hC.2.2.2.1 s s1 s2
    have hge : ∀ t, An τ j ≤ t → t < En τ j → opn σ t = true → Gn τ s ≤ Gn τ t := fun t t1 t2 t3 => by
      rcases (show t < s ∨ s ≤ t by omega) with q2 | q2
      · rw [s4 t t1 q2] at t3; cases t3
      · exact hC.2.2.2.2 s t s1 q2 t2
    have h09 : (0 : Int32) ≤ nI (Gn τ s) := (nI_leI (a := 0) (by decide) (by omega)).mpr (Nat.zero_le _)
    obtain ⟨hLS, hLJ⟩ := hW.2.1 j hj
    have hinv := (Inv.start hLS hW.1 hW.t0).fo (g := agF τ) (fun s x a b c => c.ag a b) (En τ j - An τ j) (Nat.le_refl _)
    have hri : RI τ (fo (agF τ) (An τ j) (En τ j - An τ j) σ) := hRI.fold (fun s x h1 h2 hx => by
      unfold agF
      split
      · intro t ht
        rw [u2_at]
        split
        · next q => rw [← q.2]; exact hR16 t ht
        · rw [u2_n _ _ _ _ _ _ (by omega)]; exact hx t ht
      · exact hx)
    obtain ⟨i1, i2, i3, i4, i5⟩ := hinv
    obtain ⟨a1, a2, a3, a4⟩ := ent_inv (σ := u2 (fo (agF τ) (An τ j) (En τ j - An τ j) σ) 5 j 1) (p := nI (Gn τ s)) hI hj (fun t t1 t2 => by
      have := i2 t t1 t2
      rw [u2_n _ _ _ _ 10 t (by omega), u2_n _ _ _ _ 9 t (by omega), u2_n _ _ _ _ 12 t (by omega), u2_n _ _ _ _ 1 0 (by omega)]
      exact this) (i3.up (by decide)) (by rw [u2_n _ _ _ _ 1 0 (by omega)]; exact i4) (u2_s _ _ _ _) rfl (by omega)
    refine ⟨Gn τ s, hGs.2, fun v hv => (overP_T hI hj (by omega)).mpr (fun t t1 t2 t3 => ?_), ?_, hge, ?_, hW.loc hI hj (i1.trans ((Loc.up (by omega)).trans a1)) a3 a2 a4, (hri.up (by decide)).ent⟩
    · rcases (show t < s ∨ s ≤ t by omega) with q2 | q2
      · exact s4 t t1 q2
      · have := hC.2.2.2.2 s t s1 q2 t2
        omega
    · rw [← Bool.not_eq_true]
      intro q
      have := (overP_T hI hj (by omega)).mp q s s1 s2 rfl
      rw [s3] at this; cases this
    · unfold mX2_letGoForward
      rw [c1, ob1_e, if_pos h09, rE hI hj, ob1_e, rA hI hj, ob1_e, c_ags hI hj hF, ob1_e, w8 hI hj, ob1_e, c_ent hI hj hF, ob1_e]
