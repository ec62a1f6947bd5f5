/-! pure: what people do with a parked journey -/
theorem u2_comm (σ : MS) {a i b k : Nat} {x y : Int32} (h : ¬ (a = b ∧ i = k)) : u2 (u2 σ a i x) b k y = u2 (u2 σ b k y) a i x := by
  funext c n
  rw [u2_at, u2_at, u2_at, u2_at]
  by_cases h1 : c = b ∧ n = k
  · rw [if_pos h1]
    by_cases h2 : c = a ∧ n = i
    · exact absurd ⟨h2.1.symm.trans h1.1, h2.2.symm.trans h1.2⟩ h
    · rw [if_neg h2, if_pos h1]
  · rw [if_neg h1, if_neg h1]
section PE
variable {F : Nat} {B B' : Int}
variable {τs : WS} {n : Nat} {pa : PA} {β : FS} {υ : MS} {ω : WS} {sid : PA} {i : Int32}
theorem c_ckP {j : Nat} (hg : gW sid n 0 = some ()) (hS : SI (τs (sid 0))) (hj : j < Jn (τs (sid 0))) : mX3_checkParked F τs n pa β υ ω sid (nI j) = some (if ω 0 5 j = 5 then .inr () else .inl "java/lang/IllegalStateException") := by
  unfold mX3_checkParked
  rw [hg, ob1_e, ob1_e, r8 hS hj, ob1_e]
  split <;> rfl
theorem m_noP {τ σ μ : MS} (hI : SI τ) (hR : Rel τ σ (μ 8)) (h0 : μ 0 0 = 0) : mX4_notParked F μ i = if outJ τ i then some (1, pf μ 0 1) else if σ 5 (nv i) = 5 then some (0, μ) else some (1, pf μ 0 2) := by
  unfold mX4_notParked
  rw [m_noJ hI hR h0, ob2_e]
  cases hs : outJ τ i with
  | true => rfl
  | false =>
    obtain ⟨j, hj, rfl⟩ := outJ_F hI hs
    have h8 := hI.j8 hj
    have e9 : ∀ x y : Option (Int32 × MS), (if false = true then x else y) = y := fun _ _ => rfl
    rw [nv_nI (by omega), if_pos (show b01 false = 0 from rfl), show (if false = true then pf μ 0 1 else μ) = μ from rfl, (mrOf hR).jst hI hj, ob1_e, e9]
    by_cases q : σ 5 j = 5
    · rw [if_pos q, if_pos q, ob1_e, show mX4_fails F μ 0 2 = some (0, μ) from m_fails (c := false) h0 (by decide), ob2_e]
      rfl
    · rw [if_neg q, if_neg q, ob1_e, show mX4_fails F μ 1 2 = some (1, pf μ 0 2) from m_fails (c := true) h0 (by decide), ob2_e]
      rfl
/-- a parked journey's last step that is done is put away: both sides, one world -/
theorem away {τ σ : MS} {μ : MS} {w : Nat → Int32} {j : Nat} {v : Int32} {T : Int} (hI : SI τ) (hF : 5000 ≤ F) (hB : B ≤ 2147400000) (hW : WI B T τ σ) (hj : j < Jn τ) (h5 : σ 5 j = 5) (hv : v = 5 ∨ v = 6) : ∃ s σ', An τ j ≤ s ∧ s < En τ j ∧ lsd τ σ j 0 = some s ∧ mX2_putLastStepAway F τ σ (nI j) v = some (nI (s - An τ j), σ') ∧ WI (B + 999) T τ σ' ∧ σ' = u2 (u2 (u2 (if v = 5 then u2 σ 3 (Kn τ s) (σ 3 (Kn τ s) + τ 13 s) else σ) 9 s v) 5 j 2) 8 j 0 := by
  have hA := hI.A hj
  have hN := hI.N.2
  obtain ⟨hS, hL⟩ := hW.2.1 j hj
  obtain ⟨s0, a, b, c⟩ := hL.2.2.2 h5
  cases hd : lsd τ σ j 0 with
  | none =>
    have := lst_none hd s0 a (by omega)
    rw [decide_eq_false_iff_not] at this
    exact absurd c this
  | some s =>
    obtain ⟨h1, h2, h3⟩ := lsd_in hd
    have hsN := hI.sN hj h2
    obtain ⟨p1, p2, p3, p4, p5⟩ := put_inv (v := v) hI hj (by omega) hS hW.1 h1 h2 (by rcases hv with rfl | rfl <;> decide)
    refine ⟨s, u2 (putF τ j s v σ) 5 j 2, h1, h2, rfl, ?_, ?_, ?_⟩
    · unfold mX2_putLastStepAway
      rw [i0, c_lsd hI hj hF (q := 0) (by decide), hd, ob1_e]
      show (if nI 0 ≤ nI s then ob1 (mX2_putStepAway F τ σ (nI j) (nI s) v) _ else _) = _
      rw [if_pos ((nI_leI (by decide) (by omega)).mpr (Nat.zero_le _)), c_put hI hj hsN, ob1_e, w8 hI hj, ob1_e, rA hI hj, ob1_e]
      show some (nI s - nI (An τ j), _) = _
      rw [nI_d h1]
    · refine hW.loc hI hj (p1.trans (Loc.up (by omega))) (p3.up (by decide)) (fun t t1 t2 => ?_) ?_
      · have := p2 t t1 t2
        rw [u2_n _ _ _ _ 10 t (by omega), u2_n _ _ _ _ 9 t (by omega), u2_n _ _ _ _ 12 t (by omega), u2_n _ _ _ _ 1 0 (by omega)]
        exact this
      · have hp := hI.P
        unfold LJ
        rw [u2_s, u2_n _ _ _ _ 8 j (by omega), p5]
        refine ⟨⟨by decide, by decide⟩, fun q => absurd q (by decide), fun _ => ⟨by decide, ?_⟩, fun q => absurd q (by decide)⟩
        have := hp.1
        show 0 < _
        omega
    · unfold putF
      exact u2_comm _ (by omega)
theorem p_settle (hF : 5000 ≤ F) (hB0 : 0 ≤ B) (hB : B + 1600000 ≤ B') (hB2 : B' ≤ 2000000000) : ag_settle F (HI (WRB B)) (HI (WRB B')) := by
  intro τs n pa β υ ω sid μ hI i
  obtain ⟨⟨hS, hR, hW⟩, hg⟩ := hI.now
  have hmn := WRB.mono (B := B) (B' := B') (by omega)
  have hnp := m_noP (F := F) (i := i) (μ := pf μ 0 0) hS hR (pf00 _ _)
  cases hs : outJ (τs (sid 0)) i with
  | true =>
    refine ⟨.inl "java/lang/IndexOutOfBoundsException", 0, pf μ 0 1, ?_, by simp, ?_, th0 _ _ _, (by simp), fun _ _ => (hI.p0 _).mono hmn, fun _ h => (by cases h)⟩
    · unfold mX3_settle; rw [c_ckJ hg, ift hs, obX_L]
    · unfold mX4_settle
      rw [ob1_e, hnp, ift hs, ob2_e, if_neg (by decide), pf0f]
  | false =>
    obtain ⟨j, hj, rfl⟩ := outJ_F hS hs
    have h8 := hS.j8 hj
    rw [iff' hs, nv_nI (by omega)] at hnp
    by_cases h5 : ω 0 5 j = 5
    · obtain ⟨pa1, υ1, ω1, sid1, μ1, g1, g2, g3, g4, g5, g6, g7⟩ := rem_ok (F := F) (by omega) (WRB_s B) (hI.p0 0)
      obtain ⟨⟨hS1, hR1, hW1⟩, hg1⟩ := g3.now
      rw [g4, g5] at hR1 hW1
      have hM7 : MR (τs (sid 0)) (ω 0) (fun j => μ1 8 (27 + 9 * j)) μ1 μ1 := mrOf (μ := μ1) hR1
      obtain ⟨s, σ', s1, s2, s3, s4, s5, s6⟩ := away (F := F) (v := 5) (μ := μ) (w := fun _ => 0) hS hF (by omega) hW hj h5 (Or.inl rfl)
      have hsN := hS.sN hj s2
      obtain ⟨μ2, l1, l2⟩ := m_putB (F := F) hS hM7 hsN
      obtain ⟨μ3, l3, l4⟩ := m_beU (F := F) hS l2 hj
      refine ⟨.inr (nI (s - An (τs (sid 0)) j), pa1, υ1, va_up ω1 0 σ', sid1), nI (s - An (τs (sid 0)) j), μ3, ?_, by simp, ?_, ?_, ?_, fun _ h => (by cases h), fun x hx => ?_⟩
      · unfold mX3_settle
        rw [c_ckJ hg, iff' hs, obX_R, c_ckP hg hS hj, if_pos h5, obX_R, g1, ob4_e, hg1, ob1_e, g5, g4, s4, ob2_e, ob1_e]
      · unfold mX4_settle
        rw [ob1_e, hnp, if_pos h5, ob2_e, if_pos rfl, g2, ob1_e, m_lsd hS hM7 hj hF, s3, ob1_e]
        show ob1 (mX4_stepAt F μ1 (nI j) (nI (s - An (τs (sid 0)) j))) _ = _
        rw [hM7.at hS hj, show An (τs (sid 0)) j + (s - An (τs (sid 0)) j) = s by omega, ob1_e, l1, ob1_e, l3, ob1_e]
        rfl
      · unfold mX4_thrown
        rw [l4.2.1 0 (by decide), g7 0 (by decide), pf00]
        rfl
      · intro x hx; cases hx; rfl
      · cases hx
        show HI _ τs n pa1 β υ1 (va_up ω1 0 σ') sid1 _
        refine HI.chg hmn g3 ?_ (fun q _ q8 => l4.2.1 q q8)
        rw [g5]
        refine ⟨hS, ?_, s5.mono (by omega) (Int.le_refl _)⟩
        rw [s6, if_pos rfl]
        exact l4.1
    · refine ⟨.inl "java/lang/IllegalStateException", 0, pf μ 0 2, ?_, by simp, ?_, th0 _ _ _, (by simp), fun _ _ => (hI.p0 _).mono hmn, fun _ h => (by cases h)⟩
      · unfold mX3_settle; rw [c_ckJ hg, iff' hs, obX_R, c_ckP hg hS hj, if_neg h5, obX_L]
      · unfold mX4_settle
        rw [ob1_e, hnp, if_neg h5, ob2_e, if_neg (by decide), pf0f]
theorem p_writeOff (hF : 5000 ≤ F) (hB0 : 0 ≤ B) (hB : B + 1600000 ≤ B') (hB2 : B' ≤ 2000000000) : ag_writeOff F (HI (WRB B)) (HI (WRB B')) := by
  intro τs n pa β υ ω sid μ hI i
  obtain ⟨⟨hS, hR, hW⟩, hg⟩ := hI.now
  have hmn := WRB.mono (B := B) (B' := B') (by omega)
  have hnp := m_noP (F := F) (i := i) (μ := pf μ 0 0) hS hR (pf00 _ _)
  cases hs : outJ (τs (sid 0)) i with
  | true =>
    refine ⟨.inl "java/lang/IndexOutOfBoundsException", 0, pf μ 0 1, ?_, by simp, ?_, th0 _ _ _, (by simp), fun _ _ => (hI.p0 _).mono hmn, fun _ h => (by cases h)⟩
    · unfold mX3_writeOff; rw [c_ckJ hg, ift hs, obX_L]
    · unfold mX4_writeOff
      rw [ob1_e, hnp, ift hs, ob2_e, if_neg (by decide), pf0f]
  | false =>
    obtain ⟨j, hj, rfl⟩ := outJ_F hS hs
    have h8 := hS.j8 hj
    rw [iff' hs, nv_nI (by omega)] at hnp
    by_cases h5 : ω 0 5 j = 5
    · obtain ⟨pa1, υ1, ω1, sid1, μ1, g1, g2, g3, g4, g5, g6, g7⟩ := rem_ok (F := F) (by omega) (WRB_s B) (hI.p0 0)
      obtain ⟨⟨hS1, hR1, hW1⟩, hg1⟩ := g3.now
      rw [g4, g5] at hR1 hW1
      have hM7 : MR (τs (sid 0)) (ω 0) (fun j => μ1 8 (27 + 9 * j)) μ1 μ1 := mrOf (μ := μ1) hR1
      obtain ⟨s, σ', s1, s2, s3, s4, s5, s6⟩ := away (F := F) (v := 6) (μ := μ) (w := fun _ => 0) hS hF (by omega) hW hj h5 (Or.inr rfl)
      have hsN := hS.sN hj s2
      have l2 := hM7.state (v := 6) hS hsN (by decide) (by decide)
      obtain ⟨μ3, l3, l4⟩ := m_beU (F := F) hS l2 hj
      refine ⟨.inr (nI (s - An (τs (sid 0)) j), pa1, υ1, va_up ω1 0 σ', sid1), nI (s - An (τs (sid 0)) j), μ3, ?_, by simp, ?_, ?_, ?_, fun _ h => (by cases h), fun x hx => ?_⟩
      · unfold mX3_writeOff
        rw [c_ckJ hg, iff' hs, obX_R, c_ckP hg hS hj, if_pos h5, obX_R, g1, ob4_e, hg1, ob1_e, g5, g4, s4, ob2_e, ob1_e]
      · unfold mX4_writeOff
        rw [ob1_e, hnp, if_pos h5, ob2_e, if_pos rfl, g2, ob1_e, m_lsd hS hM7 hj hF, s3, ob1_e]
        show ob1 (mX4_stepAt F μ1 (nI j) (nI (s - An (τs (sid 0)) j))) _ = _
        rw [hM7.at hS hj, show An (τs (sid 0)) j + (s - An (τs (sid 0)) j) = s by omega, ob1_e, wS4 (hS.s40 hsN), ob1_e, l3, ob1_e]
        rfl
      · unfold mX4_thrown
        rw [l4.2.1 0 (by decide), g7 0 (by decide), pf00]
        rfl
      · intro x hx; cases hx; rfl
      · cases hx
        show HI _ τs n pa1 β υ1 (va_up ω1 0 σ') sid1 _
        refine HI.chg hmn g3 ?_ (fun q _ q8 => l4.2.1 q q8)
        rw [g5]
        refine ⟨hS, ?_, s5.mono (by omega) (Int.le_refl _)⟩
        rw [s6, if_neg (by decide)]
        exact l4.1
    · refine ⟨.inl "java/lang/IllegalStateException", 0, pf μ 0 2, ?_, by simp, ?_, th0 _ _ _, (by simp), fun _ _ => (hI.p0 _).mono hmn, fun _ h => (by cases h)⟩
      · unfold mX3_writeOff; rw [c_ckJ hg, iff' hs, obX_R, c_ckP hg hS hj, if_neg h5, obX_L]
      · unfold mX4_writeOff
        rw [ob1_e, hnp, if_neg h5, ob2_e, if_neg (by decide), pf0f]
theorem opn_F {σ : MS} {s : Nat} : (opn σ s = false) ↔ (σ 9 s = 3 ∨ σ 9 s = 6) := by
  unfold opn
  rw [decide_eq_false_iff_not]
  constructor
  · intro h
    by_cases q : σ 9 s = 3
    · exact Or.inl q
    · by_cases q2 : σ 9 s = 6
      · exact Or.inr q2
      · exact absurd ⟨q, q2⟩ h
  · rintro (h | h) q
    · exact q.1 h
    · exact q.2 h
/-- the first stage with a step that is open: the class looks at the steps, the reference at the stages -/
theorem c_fos {τ σ : MS} {j : Nat} (hI : SI τ) (hj : j < Jn τ) (hF : 5000 ≤ F) : ok (mX2_firstOpenStage F τ σ (nI j)) (fun r => (r = -1 ∧ ∀ s, An τ j ≤ s → s < En τ j → opn σ s = false) ∨ ∃ s, An τ j ≤ s ∧ s < En τ j ∧ opn σ s = true ∧ r = nI (Gn τ s) ∧ ∀ t, An τ j ≤ t → t < s → opn σ t = false) := by
  have hA := hI.A hj
  have hN := hI.N.2
  have hl := loop_relX (α := Unit) (β := Int32 ⊕ Unit) (f := fun st : Int32 × Unit => (mX2_firstOpenStage_L20 F (nI (En τ j)) τ σ st.1).map (fun r => match r with | .inl b => .inl b | .inr v => .inr (v, ()))) (fun i _ => An τ j ≤ i ∧ ∀ t, An τ j ≤ t → t < i → opn σ t = false) (Q := fun r => (r = .inr () ∧ ∀ s, An τ j ≤ s → s < En τ j → opn σ s = false) ∨ ∃ s, An τ j ≤ s ∧ s < En τ j ∧ opn σ s = true ∧ r = .inl (nI (Gn τ s)) ∧ ∀ t, An τ j ≤ t → t < s → opn σ t = false) (En τ j) (fun i _ hi hR => by
    have hsN := hI.sN (s := i) hj hi
    show ok ((mX2_firstOpenStage_L20 F (nI (En τ j)) τ σ (nI i)).map _) _
    unfold mX2_firstOpenStage_L20
    rw [if_neg (nle (by omega) (by omega) hi), c_isOpen hI hsN, ob1_e, r40 hI hsN, ob1_e, ((hI.C hj).2.2.2.1 i hR.1 hi).1, nI_s]
    cases ho : opn σ i with
    | true =>
      rw [if_neg (by decide)]
      exact ok_some (Or.inl ⟨_, rfl, Or.inr ⟨i, hR.1, hi, ho, rfl, hR.2⟩⟩)
    | false =>
      rw [if_pos (by decide)]
      refine ok_some (Or.inr ⟨(), rfl, by omega, fun t t1 t2 => ?_⟩)
      by_cases q : t = i
      · rw [q]; exact ho
      · exact hR.2 t t1 (by omega)) (fun _ hR => by
    show ok ((mX2_firstOpenStage_L20 F (nI (En τ j)) τ σ (nI (En τ j))).map _) _
    unfold mX2_firstOpenStage_L20
    rw [if_pos (Int32.le_refl _)]
    exact ok_some ⟨_, rfl, Or.inl ⟨rfl, hR.2⟩⟩) (En τ j - An τ j) (An τ j) F () (by omega) (by omega) ⟨Nat.le_refl _, fun t t1 t2 => absurd t1 (by omega)⟩
  have conv : ∀ (fu : Nat) (v : Int32), loopM (fun st : Int32 × Unit => (mX2_firstOpenStage_L20 F (nI (En τ j)) τ σ st.1).map (fun r => match r with | .inl b => Sum.inl b | .inr v => Sum.inr (v, ()))) fu (v, ()) = loopM (fun st => mX2_firstOpenStage_L20 F (nI (En τ j)) τ σ st) fu v := by
    intro fu
    induction fu with
    | zero => intro v; rfl
    | succ fu ih =>
      intro v
      show ob1 ((mX2_firstOpenStage_L20 F (nI (En τ j)) τ σ v).map _) _ = ob1 (mX2_firstOpenStage_L20 F (nI (En τ j)) τ σ v) _
      cases mX2_firstOpenStage_L20 F (nI (En τ j)) τ σ v with
      | none => rfl
      | some r =>
        cases r with
        | inl b => rfl
        | inr v' => exact ih v'
  rw [conv] at hl
  obtain ⟨r, l1, l2⟩ := hl
  unfold mX2_firstOpenStage
  rw [rE hI hj, ob1_e, rA hI hj, ob1_e, l1, ob1_e]
  rcases l2 with ⟨rfl, h⟩ | ⟨s, a, b, c, rfl, d⟩
  · rw [el1_R]; exact ok_some (Or.inl ⟨rfl, h⟩)
  · rw [el1_L]; exact ok_some (Or.inr ⟨s, a, b, c, rfl, d⟩)
theorem m_fos {τ σ μ0 μ : MS} {w : Nat → Int32} {j : Nat} (hI : SI τ) (h : MR τ σ w μ0 μ) (hj : j < Jn τ) (hF : 5000 ≤ F) : ok (loopM (fun st => mX4_goForward_L21 F (nI j) μ st) F (0 : Int32)) (fun r => ∃ v : Nat, r = nI v ∧ v ≤ Cn τ j ∧ (v < Cn τ j → overP τ σ j (nI v) = false) ∧ ∀ u, u < v → overP τ σ j (nI u) = true) := by
  have hC := hI.C hj
  have h8 := hI.j8 hj
  have key : ∀ (m v fu : Nat), v + m = Cn τ j → m < fu → (∀ u, u < v → overP τ σ j (nI u) = true) → ok (loopM (fun st => mX4_goForward_L21 F (nI j) μ st) fu (nI v)) (fun r => ∃ v : Nat, r = nI v ∧ v ≤ Cn τ j ∧ (v < Cn τ j → overP τ σ j (nI v) = false) ∧ ∀ u, u < v → overP τ σ j (nI u) = true) := by
    intro m
    induction m with
    | zero =>
      intro v fu h1 h2 h3
      refine ⟨nI v, loop_gol ?_ (by omega), v, rfl, by omega, fun q => absurd q (by omega), h3⟩
      show mX4_goForward_L21 F (nI j) μ (nI v) = _
      unfold mX4_goForward_L21
      rw [ofJ2 h8, (h.rj hj).2.2.1, hC.1, ob1_e, if_pos ((nI_leI (by omega) (by omega)).mpr (by omega)), ob1_e, cnd_F]
    | succ m ih =>
      intro v fu h1 h2 h3
      have hf : mX4_goForward_L21 F (nI j) μ (nI v) = some (if overP τ σ j (nI v) then .inr (nI (v + 1)) else .inl (nI v)) := by
        unfold mX4_goForward_L21
        rw [ofJ2 h8, (h.rj hj).2.2.1, hC.1, ob1_e, if_neg (nle (by omega) (by omega) (by omega)), m_over hI h hj hF, ob1_e, nI_s]
        cases overP τ σ j (nI v) <;> rfl
      cases ho : overP τ σ j (nI v) with
      | true =>
        rw [ho] at hf
        obtain ⟨r, l1, l2⟩ := ih (v + 1) (fu - 1) (by omega) (by omega) (fun u hu => by
          by_cases q : u = v
          · rw [q]; exact ho
          · exact h3 u (by omega))
        exact ⟨r, (loop_gen hf (by omega)).trans l1, l2⟩
      | false =>
        rw [ho] at hf
        exact ⟨nI v, loop_gol hf (by omega), v, rfl, by omega, fun _ => ho, h3⟩
  exact key (Cn τ j) 0 F (by omega) (by omega) (fun u hu => absurd hu (by omega))
theorem overP_T {τ σ : MS} {j u : Nat} (hI : SI τ) (hj : j < Jn τ) (hu : u < 100) : overP τ σ j (nI u) = true ↔ ∀ s, An τ j ≤ s → s < En τ j → Gn τ s = u → opn σ s = false := by
  have hA := hI.A hj
  unfold overP
  rw [Bool.not_eq_true', exB_F]
  constructor
  · intro h s h1 h2 h3
    have := h s h1 (by omega)
    rw [Bool.and_eq_false_iff, decide_eq_false_iff_not] at this
    rcases this with q | q
    · exact absurd (by rw [((hI.C hj).2.2.2.1 s h1 h2).1, h3]) q
    · exact q
  · intro h s h1 h2
    rw [Bool.and_eq_false_iff, decide_eq_false_iff_not]
    by_cases q : Gn τ s = u
    · exact Or.inr (h s h1 (by omega) q)
    · refine Or.inl (fun q2 => q ?_)
      rw [((hI.C hj).2.2.2.1 s h1 (by omega)).1] at q2
      have := ((hI.C hj).2.2.2.1 s h1 (by omega)).2
      have := (hI.C hj).2.2.1
      exact (nI_i (by omega) (by omega)).mp q2
/-- an open step is to be done again -/
def agF (τ : MS) (s : Nat) (σ : MS) : MS := if opn σ s then u2 (u2 σ 9 s 0) 11 s (τ 16 s) else σ
theorem ag_opn {τ σ : MS} {s t : Nat} (h : t ≠ s) : agF τ s σ 9 t = σ 9 t := by
  unfold agF
  split
  · rw [u2_n _ _ _ _ _ _ (by omega), u2_n _ _ _ _ _ _ (by omega)]
  · rfl
theorem Inv.ag {τ σ0 σ : MS} {j s : Nat} (h : Inv B τ j σ0 σ) (h1 : An τ j ≤ s) (h2 : s < En τ j) : Inv B τ j σ0 (agF τ s σ) := by
  unfold agF
  split
  · exact (h.up h1 h2 (Or.inr (Or.inr ⟨rfl, by decide⟩))).up h1 h2 (Or.inl rfl)
  · exact h
theorem ags_opn {τ σ : MS} {j k t : Nat} (h : k ≤ t) : fo (agF τ) j k σ 9 (j + t) = σ 9 (j + t) :=
  fo_keepR (fun x : MS => x 9 (j + t)) (fun s x h1 h2 => ag_opn (by omega))
theorem c_ags {τ σ : MS} {j : Nat} {p q : Int32} (hI : SI τ) (hj : j < Jn τ) (hF : 5000 ≤ F) : loopM (fun st : Int32 × MS => mX2_letGoForward_L33 F (nI (En τ j)) p q τ st.1 st.2) F (nI (An τ j), σ) = some (fo (agF τ) (An τ j) (En τ j - An τ j) σ) := by
  have hA := hI.A hj
  have hN := hI.N.2
  exact loop_up (f := fun st : Int32 × MS => mX2_letGoForward_L33 F (nI (En τ j)) p q τ st.1 st.2) (fun _ _ => True) (agF τ) (fun v => v) (En τ j) (fun s σ hs _ => ⟨by
    show mX2_letGoForward_L33 F (nI (En τ j)) p q τ (nI s) σ = _
    have hsN := hI.sN hj hs
    unfold mX2_letGoForward_L33 agF
    rw [if_neg (nle (by omega) (by omega) hs), c_isOpen hI hsN, ob1_e, w40 hI hsN, ob1_e, r40 hI hsN, ob1_e, w40 hI hsN]
    cases opn σ s <;> simp [ob1, nI_s, b01], trivial⟩) (fun v _ => by
    show mX2_letGoForward_L33 F (nI (En τ j)) p q τ (nI (En τ j)) v = _
    unfold mX2_letGoForward_L33
    rw [if_pos (Int32.le_refl _)]) (En τ j - An τ j) (An τ j) F σ (by omega) (by omega) trivial
theorem m_ags {τ σ μ0 μ : MS} {w : Nat → Int32} {j g : Nat} (hI : SI τ) (h : MR τ σ w μ0 μ) (hj : j < Jn τ) (hF : 5000 ≤ F) (hg : ∀ t, An τ j ≤ t → t < En τ j → opn σ t = true → g ≤ Gn τ t) : ok (loopM (fun st : Int32 × MS => mX4_goForward_L60 F (nI g) (nI j) st.1 st.2) F ((0 : Int32), μ)) (fun μ' => MR τ (fo (agF τ) (An τ j) (En τ j - An τ j) σ) w μ0 μ') := by
  have hA := hI.A hj
  have hN := hI.N.2
  have hC := hI.C hj
  refine loop_rel (f := fun st : Int32 × MS => mX4_goForward_L60 F (nI g) (nI j) st.1 st.2) (fun i μ => MR τ (fo (agF τ) (An τ j) i σ) w μ0 μ) (En τ j - An τ j) (fun i μ hi h => ?_) (fun μ h => ?_) (En τ j - An τ j) 0 F μ (by omega) (by omega) h
  · show ok (mX4_goForward_L60 F (nI g) (nI j) (nI i) μ) _
    have hsN := hI.sN (s := An τ j + i) hj (by omega)
    have h40 := hI.s40 hsN
    have hG := hC.2.2.2.1 (An τ j + i) (by omega) (by omega)
    have e : fo (agF τ) (An τ j) (i + 1) σ = agF τ (An τ j + i) (fo (agF τ) (An τ j) i σ) := fo_end _ _ _ _
    have e9 : fo (agF τ) (An τ j) i σ 9 (An τ j + i) = σ 9 (An τ j + i) := ags_opn (Nat.le_refl _)
    have hgo := hg (An τ j + i) (by omega) (by omega)
    rw [e]
    have hop : opn (fo (agF τ) (An τ j) i σ) (An τ j + i) = opn σ (An τ j + i) := by unfold opn; rw [e9]
    rw [← hop] at hgo
    generalize fo (agF τ) (An τ j) i σ = σ1 at h hgo ⊢
    have hs := h.rs hsN
    unfold mX4_goForward_L60 agF
    rw [h.cnt hI hj, ob1_e, if_neg (nle (by omega) (by omega) hi), h.at hI hj, ob1_e, m_settled hI h hj (by omega), ob1_e]
    cases ho : opn σ1 (An τ j + i) with
    | true =>
      have hge := hgo ho
      have hgt : nI g ≤ nI (Gn τ (An τ j + i)) := (nI_leI (by omega) (by omega)).mpr hge
      have h1 := h.state (v := 0) hI hsN (by decide) (by decide)
      rw [if_pos (by decide), rS0 h40, hs.1, hG.1, ob1_e, if_pos hgt, wS4 h40, ob1_e, rS7 h40, (h1.rs hsN).2.2.2.2.2.2.2.1, ob1_e, wS6 h40, ob1_e, ob1_e, nI_s]
      exact ok_some ⟨_, rfl, h1.rep hI hsN⟩
    | false =>
      rw [if_neg (by decide), ob1_e, nI_s]
      exact ok_some ⟨_, rfl, h⟩
  · show ok (mX4_goForward_L60 F (nI g) (nI j) (nI (En τ j - An τ j)) μ) _
    unfold mX4_goForward_L60
    rw [h.cnt hI hj, ob1_e, if_pos (Int32.le_refl _)]
    exact ok_some ⟨_, rfl, h⟩
theorem p_goForward (hF : 5000 ≤ F) (hB0 : 0 ≤ B) (hB : B + 1600000 ≤ B') (hB2 : B' ≤ 2000000000) : ag_goForward F (HI (WRB B)) (HI (WRB B')) := by
  intro τs n pa β υ ω sid μ hI i
  obtain ⟨⟨hS, hR, hW⟩, hg⟩ := hI.now
  have hmn := WRB.mono (B := B) (B' := B') (by omega)
  have hnp := m_noP (F := F) (i := i) (μ := pf μ 0 0) hS hR (pf00 _ _)
  cases hs : outJ (τs (sid 0)) i with
  | true =>
    refine ⟨.inl "java/lang/IndexOutOfBoundsException", 0, pf μ 0 1, ?_, by simp, ?_, th0 _ _ _, (by simp), fun _ _ => (hI.p0 _).mono hmn, fun _ h => (by cases h)⟩
    · unfold mX3_goForward; rw [c_ckJ hg, ift hs, obX_L]
    · unfold mX4_goForward
      rw [ob1_e, hnp, ift hs, ob2_e, if_neg (by decide), pf0f]
  | false =>
    obtain ⟨j, hj, rfl⟩ := outJ_F hS hs
    have h8 := hS.j8 hj
    have hC := hS.C hj
    have hA := hS.A hj
    have hN := hS.N.2
    rw [iff' hs, nv_nI (by omega)] at hnp
    by_cases h5 : ω 0 5 j = 5
    · obtain ⟨pa1, υ1, ω1, sid1, μ1, g1, g2, g3, g4, g5, g6, g7⟩ := rem_ok (F := F) (by omega) (WRB_s B) (hI.p0 0)
      obtain ⟨⟨hS1, hR1, hW1⟩, hg1⟩ := g3.now
      rw [g4, g5] at hR1 hW1
      have hM7 : MR (τs (sid 0)) (ω 0) (fun j => μ1 8 (27 + 9 * j)) μ1 μ1 := mrOf (μ := μ1) hR1
      obtain ⟨rv, m1, v, rfl, m2, m3, m4⟩ := m_fos (F := F) hS hM7 hj hF
      obtain ⟨r, c1, c2⟩ := c_fos (F := F) (σ := ω 0) hS hj hF
      rcases c2 with ⟨rfl, hall⟩ | ⟨s, s1, s2, s3, rfl, s4⟩
      · have hv : v = Cn (τs (sid 0)) j := by
          rcases (show v < Cn (τs (sid 0)) j ∨ v = Cn (τs (sid 0)) j by omega) with q | q
          · have := m3 q
            rw [(overP_T (σ := ω 0) hS hj (by omega)).mpr (fun s a b _ => hall s a b)] at this
            cases this
          · exact q
        refine ⟨.inr (-1, pa1, υ1, va_up ω1 0 (ω 0), sid1), -1, μ1, ?_, by simp, ?_, ?_, ?_, fun _ h => (by cases h), fun x hx => ?_⟩
        · unfold mX3_goForward mX2_letGoForward
          rw [c_ckJ hg, iff' hs, obX_R, c_ckP hg hS hj, if_pos h5, obX_R, g1, ob4_e, hg1, ob1_e, g5, g4, c1, ob1_e, if_neg (by decide), ob2_e, ob1_e]
        · unfold mX4_goForward
          rw [ob1_e, hnp, if_pos h5, ob2_e, if_pos rfl, g2, ob1_e, m1, ob1_e, ofJ2 h8, (hM7.rj hj).2.2.1, hC.1, ob1_e, if_pos (by rw [hv])]
        · unfold mX4_thrown
          rw [g7 0 (by decide), pf00]
          rfl
        · intro x hx; cases hx; rfl
        · cases hx
          show HI _ τs n pa1 β υ1 (va_up ω1 0 (ω 0)) sid1 _
          refine HI.chg hmn g3 ?_ (fun q _ _ => rfl)
          rw [g5]
          exact ⟨hS, hR1, hW.mono (by omega) (Int.le_refl _)⟩
      · have hGs := hC.2.2.2.1 s s1 s2
        have hv : v = Gn (τs (sid 0)) s := by
          have hno : overP (τs (sid 0)) (ω 0) j (nI (Gn (τs (sid 0)) s)) ≠ true := fun q => by
            have := (overP_T (σ := ω 0) hS hj (by omega)).mp q s s1 s2 rfl
            rw [s3] at this; cases this
          have hle : v ≤ Gn (τs (sid 0)) s := by
            rcases (show v ≤ Gn (τs (sid 0)) s ∨ Gn (τs (sid 0)) s < v by omega) with q | q
            · exact q
            · exact absurd (m4 _ q) hno
          have hnv := m3 (by omega)
          rcases (show v = Gn (τs (sid 0)) s ∨ v < Gn (τs (sid 0)) s by omega) with q | q
          · exact q
          · exfalso
            have : overP (τs (sid 0)) (ω 0) j (nI v) = true := (overP_T hS hj (by omega)).mpr (fun t t1 t2 t3 => by
              rcases (show t < s ∨ s ≤ t by omega) with q2 | q2
              · exact s4 t t1 q2
              · have := hC.2.2.2.2 s t s1 q2 t2
                omega)
            rw [hnv] at this; cases this
        subst hv
        have hge : ∀ t, An (τs (sid 0)) j ≤ t → t < En (τs (sid 0)) j → opn (ω 0) t = true → Gn (τs (sid 0)) s ≤ Gn (τs (sid 0)) t := fun t t1 t2 t3 => by
          rcases (show t < s ∨ s ≤ t by omega) with q2 | q2
          · rw [s4 t t1 q2] at t3; cases t3
          · exact hC.2.2.2.2 s t s1 q2 t2
        have h09 : (0 : Int32) ≤ nI (Gn (τs (sid 0)) s) := (nI_leI (a := 0) (by decide) (by omega)).mpr (Nat.zero_le _)
        obtain ⟨μ2, l1, l2⟩ := m_ags (F := F) hS hM7 hj hF hge
        obtain ⟨hLS, hLJ⟩ := hW.2.1 j hj
        have hinv := (Inv.start hLS hW.1 hW.t0).fo (g := agF (τs (sid 0))) (fun s x a b c => c.ag a b) (En (τs (sid 0)) j - An (τs (sid 0)) j) (Nat.le_refl _)
        generalize hσ1 : fo (agF (τs (sid 0))) (An (τs (sid 0)) j) (En (τs (sid 0)) j - An (τs (sid 0)) j) (ω 0) = σ1 at l2 hinv
        obtain ⟨i1, i2, i3, i4, i5⟩ := hinv
        obtain ⟨a1, a2, a3, a4⟩ := ent_inv (σ := u2 σ1 5 j 1) (p := nI (Gn (τs (sid 0)) s)) hS hj (fun t t1 t2 => by
          have := i2 t t1 t2
          rw [u2_n _ _ _ _ 10 t (by omega), u2_n _ _ _ _ 9 t (by omega), u2_n _ _ _ _ 12 t (by omega), u2_n _ _ _ _ 1 0 (by omega)]
          exact this) (i3.up (by decide)) (by rw [u2_n _ _ _ _ 1 0 (by omega)]; exact i4) (u2_s _ _ _ _) rfl (by omega)
        have hlt : nI (Gn (τs (sid 0)) s) < τs (sid 0) 7 j := by rw [hC.1]; exact (nI_ltI (by omega) (by omega)).mpr hGs.2
        obtain ⟨μ3, l3, l4⟩ := m_presL (F := F) (p := nI (Gn (τs (sid 0)) s)) hS (l2.forw (v := nI (Gn (τs (sid 0)) s)) hS hj) hj (u2_s _ _ _ _) hF
        refine ⟨.inr (nI (Gn (τs (sid 0)) s), pa1, υ1, va_up ω1 0 (entF (τs (sid 0)) j (nI (Gn (τs (sid 0)) s)) (u2 σ1 5 j 1)), sid1), nI (Gn (τs (sid 0)) s), μ3, ?_, by simp, ?_, ?_, ?_, fun _ h => (by cases h), fun x hx => ?_⟩
        · unfold mX3_goForward mX2_letGoForward
          rw [c_ckJ hg, iff' hs, obX_R, c_ckP hg hS hj, if_pos h5, obX_R, g1, ob4_e, hg1, ob1_e, g5, g4, c1, ob1_e, if_pos h09, rE hS hj, ob1_e, rA hS hj, ob1_e, c_ags hS hj hF, hσ1, ob1_e, w8 hS hj, ob1_e, c_ent hS hj hF, ob1_e, ob2_e, ob1_e]
        · unfold mX4_goForward
          rw [ob1_e, hnp, if_pos h5, ob2_e, if_pos rfl, g2, ob1_e, m1, ob1_e, ofJ2 h8, (hM7.rj hj).2.2.1, hC.1, ob1_e, if_neg (fun q => by have := (nI_i (by omega) (by omega)).mp q; omega), l1, ob1_e, jAt, ob1_e, wJ0 h8, ob1_e, ob1_e, wJ5 h8, ob1_e]
          unfold mX4_present
          rw [jAt, ob1_e, wJ4 h8, ob1_e, l3, ob1_e, ob1_e]
        · unfold mX4_thrown
          rw [l4.2.1 0 (by decide), g7 0 (by decide), pf00]
          rfl
        · intro x hx; cases hx; rfl
        · cases hx
          show HI _ τs n pa1 β υ1 (va_up ω1 0 (entF (τs (sid 0)) j (nI (Gn (τs (sid 0)) s)) (u2 σ1 5 j 1))) sid1 _
          refine HI.chg hmn g3 ?_ (fun q _ q8 => l4.2.1 q q8)
          rw [g5]
          refine ⟨hS, ?_, (hW.loc hS hj (i1.trans ((Loc.up (by omega)).trans a1)) a3 a2 a4).mono (by omega) (Int.le_refl _)⟩
          unfold entF
          rw [if_pos hlt]
          exact l4.1
    · refine ⟨.inl "java/lang/IllegalStateException", 0, pf μ 0 2, ?_, by simp, ?_, th0 _ _ _, (by simp), fun _ _ => (hI.p0 _).mono hmn, fun _ h => (by cases h)⟩
      · unfold mX3_goForward; rw [c_ckJ hg, iff' hs, obX_R, c_ckP hg hS hj, if_neg h5, obX_L]
      · unfold mX4_goForward
        rw [ob1_e, hnp, if_neg h5, ob2_e, if_neg (by decide), pf0f]
end PE
