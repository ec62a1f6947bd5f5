/-! pure: both read a statement; the whole text -/
section RT
variable {T : FS} {L : Nat} {ν τ ρ μ : MS} {X Y : XT} {b : Nat} {F : Nat} {β : FS}
theorem wd_len (hL : L ≤ 700) {p w : Nat} (hw : w < 9) (hp : p ≤ L) (h : wd T L p w = true) : te T L p = p + (sW w).length := by
  unfold wd at h
  rw [Bool.and_eq_true, Bool.not_eq_true'] at h
  exact (am_te hw h.1 hL hp).mpr h.2
/-- what the class does with a statement, but its end -/
def stB (F : Nat) (β5 : FS) (τ6 ρ7 : MS) : Option (MS × MS) := ob1 (mX1_wordIs F β5 τ6 ρ7 1) fun r13 => if r13 = 0 then ob1 (mX1_wordIs F β5 τ6 ρ7 2) fun r20 => (if r20 = 0 then ob1 (mX1_wordIs F β5 τ6 ρ7 3) fun r23 => ob1 (if r23 = 0 then some false else (if (ρ7 5 0) = 0 then some true else some false)) fun t25 => cnd t25 (ob1 (some (pf ρ7 5 (1 : Int32))) fun ρ29 => ob1 (mX1_nextToken F β5 τ6 ρ29) fun ρ30 => ob2 (mX1_readNumber F β5 τ6 ρ30 (1 : Int32) (99 : Int32)) fun r31 ρ32 => ob1 (some (pf τ6 0 r31)) fun τ33 => some (τ33, ρ32)) (ob1 (mX1_wordIs F β5 τ6 ρ7 4) fun r34 => ob1 (if r34 = 0 then some false else (if (ρ7 6 0) = 0 then some true else some false)) fun t36 => cnd t36 (ob1 (some (pf ρ7 6 (1 : Int32))) fun ρ40 => ob1 (mX1_nextToken F β5 τ6 ρ40) fun ρ41 => ob2 (mX1_readNumber F β5 τ6 ρ41 (1 : Int32) (9 : Int32)) fun r42 ρ43 => ob1 (some (pf τ6 1 r42)) fun τ44 => some (τ44, ρ43)) (ob1 (mX1_fail F β5 τ6 ρ7 (-2 : Int32) (ρ7 8 0)) fun ρ45 => some (τ6, ρ45))) else ob2 (mX1_readJourney F β5 τ6 ρ7) fun τ46 ρ47 => some (τ46, ρ47)) else ob2 (mX1_readStock F β5 τ6 ρ7) fun τ48 ρ49 => some (τ48, ρ49)
/-- .. and the reference -/
def stM (F : Nat) (μ2 : MS) : Option MS := ob2 (mX4_takeWord F μ2 10) fun r3 μ4 => if r3 = 0 then ob2 (mX4_takeWord F μ4 11) fun r10 μ11 => (if r10 = 0 then ob2 (mX4_takeWord F μ11 12) fun r14 μ15 => (if r14 = 0 then ob2 (mX4_takeWord F μ15 13) fun r18 μ19 => (if r18 = 0 then ob1 (mX4_report F μ19 (-2 : Int32) (μ2 4 0)) fun μ22 => some μ22 else ob1 (mX4_once F μ19 (1 : Int32) (μ2 4 0)) fun μ23 => ob2 (mX4_number F μ23 (1 : Int32) (9 : Int32)) fun r24 μ25 => ob1 (wra μ25 9 451 (5 : Int32) r24) fun μ26 => some μ26) else ob1 (mX4_once F μ15 (0 : Int32) (μ2 4 0)) fun μ27 => ob2 (mX4_number F μ27 (1 : Int32) (99 : Int32)) fun r28 μ29 => ob1 (wra μ29 9 451 (4 : Int32) r28) fun μ30 => some μ30) else ob1 (mX4_readJourney F μ11 (μ2 4 0)) fun μ31 => some μ31) else ob1 (mX4_readStock F μ4 (μ2 4 0)) fun μ32 => some μ32
theorem m_stmt : mX4_statement F μ = ob2 (mX4_next F μ) fun r1 μ2 => ob1 (stM F μ2) fun μ6 => ob1 (mX4_expect F μ6 (59 : Int32)) fun μ33 => some μ33 := by
  unfold mX4_statement stM
  simp only [ob1_ob2]
theorem c_L18 {i : Int32} (h : (if (ρ 4 0) ≤ i then some false else (if (ρ 1 0) = 0 then (if (ρ 7 0) = 0 then some false else some true) else some false)) = some true) : mX1_readSetup_L18 F β i τ ρ = ob2 (stB F β τ ρ) fun τ15 ρ16 => ob1 (mX1_takeSign F β τ15 ρ16 (59 : Int32)) fun ρ50 => some (.inr ((i + (1 : Int32)), τ15, ρ50)) := by
  unfold mX1_readSetup_L18 stB
  rw [h, ob1_e, cnd_T]
  show ob1 _ _ = ob1 (ob1 _ _) _
  rw [ob1_ob1]
  rfl
theorem ob1_id {α : Type} (a : Option α) : ob1 a (fun x => some x) = a := by cases a <;> rfl
theorem PR.stmt (hF : 5000 ≤ F) (hB : BT β T L) (h : PR T L ν X0 b τ ρ μ) (hg : μ 5 0 = 0) (ho : μ 4 0 = ρ 8 0) : ∃ τ' ρ' μ', stB F β τ ρ = some (τ', ρ') ∧ stM F μ = some μ' ∧ PR T L ν X0 b τ' ρ' μ' := by
  have hL := hB.1
  have hρ : ρ 1 0 = 0 := h.2.1.trans hg
  obtain ⟨⟨p, c, p1, p2, p3, p4, p5, p6⟩, hX⟩ := h.2.2.2 hg
  unfold stB stM
  rw [ho]
  -- stock
  obtain ⟨x1, a1, a2⟩ := h.word (F := F) hF hB (w := 1) (by decide)
  obtain ⟨μ1, a3, a4, a5, a6, a7⟩ := a2 hg
  have hg1 : μ1 5 0 = 0 := by rw [a4 5 (by decide)]; exact hg
  rw [a1, ob1_e, show mX4_takeWord F μ 10 = some (b01 x1, μ1) from a3, ob2_e]
  cases x1 with
  | true =>
    obtain ⟨ρ', n1, n2, n3⟩ := a6 rfl
    obtain ⟨τ', ρ2, μ', e1, e2, e3⟩ := PR.stock (F := F) (β := β) (b := b) hF hB (h.1.mix n2.1) hρ hg1 (by rw [a4 6 (by decide)]; exact h.2.2.1) (by rw [a4 9 (by decide), a4 14 (by decide)]; exact hX) ⟨ρ', n1, n2⟩
    rw [if_neg (show ¬ b01 true = 0 by decide), if_neg (show ¬ b01 true = 0 by decide), e1, ob2_e, e2, ob1_e]
    exact ⟨τ', ρ2, μ', rfl, rfl, e3⟩
  | false =>
    obtain ⟨a8, -⟩ := a5 rfl
    rw [if_pos (show b01 false = 0 from rfl), if_pos (show b01 false = 0 from rfl)]
    -- journey
    obtain ⟨x2, b1, b2⟩ := a8.word (F := F) hF hB (w := 2) (by decide)
    obtain ⟨μ2, b3, b4, b5, b6, b7⟩ := b2 hg1
    have hg2 : μ2 5 0 = 0 := by rw [b4 5 (by decide)]; exact hg1
    have hX2 : X0 τ (ρ 5 0) (ρ 6 0) (μ2 9) (μ2 14 0) := by rw [b4 9 (by decide), b4 14 (by decide), a4 9 (by decide), a4 14 (by decide)]; exact hX
    have h62 : ρ 2 0 = μ2 6 0 := by rw [b4 6 (by decide), a4 6 (by decide)]; exact h.2.2.1
    rw [b1, ob1_e, show mX4_takeWord F μ1 11 = some (b01 x2, μ2) from b3, ob2_e]
    cases x2 with
    | true =>
      obtain ⟨ρ', n1, n2, n3⟩ := b6 rfl
      obtain ⟨τ', ρ2, μ', e1, e2, e3⟩ := PR.journey (F := F) (β := β) (b := b) hF hB (h.1.mix n2.1) hρ hg2 h62 hX2 ⟨ρ', n1, n2⟩
      rw [if_neg (show ¬ b01 true = 0 by decide), if_neg (show ¬ b01 true = 0 by decide), e1, ob2_e, e2, ob1_e]
      exact ⟨τ', ρ2, μ', rfl, rfl, e3⟩
    | false =>
      obtain ⟨b8, -⟩ := b5 rfl
      rw [if_pos (show b01 false = 0 from rfl), if_pos (show b01 false = 0 from rfl)]
      -- wait
      obtain ⟨x3, c1, c2⟩ := b8.word (F := F) hF hB (w := 3) (by decide)
      obtain ⟨μ3, c3, c4, c5, c6, c7⟩ := c2 hg2
      have hg3 : μ3 5 0 = 0 := by rw [c4 5 (by decide)]; exact hg2
      have hX3 : X0 τ (ρ 5 0) (ρ 6 0) (μ3 9) (μ3 14 0) := by rw [c4 9 (by decide), c4 14 (by decide)]; exact hX2
      have h63 : ρ 2 0 = μ3 6 0 := by rw [c4 6 (by decide)]; exact h62
      have hw4 := c_word (F := F) (τ := τ) hF hB (w := 4) (by decide) p1 p2
      rw [c1, ob1_e, show mX4_takeWord F μ2 12 = some (b01 x3, μ3) from c3, ob2_e]
      cases x3 with
      | true =>
        have hw3 := c_word (F := F) (τ := τ) hF hB (w := 3) (by decide) p1 p2
        rw [hw3] at c1
        have hwd3 : wd T L p 3 = true := by
          cases q : wd T L p 3
          · rw [q] at c1; exact absurd (Option.some.inj c1) (by decide)
          · rfl
        have hwd4 : wd T L p 4 = false := by
          cases q : wd T L p 4
          · rfl
          · have q1 := wd_len hL (by decide) p1 hwd3
            have q2 := wd_len hL (by decide) p1 q
            have q3 : (sW 3).length = 4 := rfl
            have q4 : (sW 4).length = 8 := rfl
            omega
        obtain ⟨ρ', n1, n2, n3⟩ := c6 rfl
        obtain ⟨μ', t1, t2, t3⟩ := PR.told (F := F) (β := β) (b := b) (k := 0) (H := 99) hF hB (by decide) (fun q => absurd q (by decide)) (h.1.mix n2.1) hρ hg3 h63 hX3 (c7 rfl)
        rw [if_neg (show ¬ b01 true = 0 by decide), if_neg (show ¬ b01 true = 0 by decide)]
        have t1' : (ob1 (mX4_once F μ3 (0 : Int32) (ρ 8 0)) fun μ27 => ob2 (mX4_number F μ27 (1 : Int32) (99 : Int32)) fun r28 μ29 => ob1 (wra μ29 9 451 (4 : Int32) r28) fun μ30 => some μ30) = some μ' := t1
        rw [t1']
        by_cases hz : ρ 5 0 = 0
        · obtain ⟨τ', ρ2, e1, e2⟩ := t2 hz
          rw [if_pos hz, ob1_e, cnd_T, ob1_e]
          have e1' : (ob1 (mX1_nextToken F β τ (pf ρ 5 1)) fun ρ30 => ob2 (mX1_readNumber F β τ ρ30 (1 : Int32) (99 : Int32)) fun r31 ρ32 => ob1 (some (pf τ 0 r31)) fun τ33 => some (τ33, ρ32)) = some (τ', ρ2) := e1
          rw [e1']
          exact ⟨τ', ρ2, μ', rfl, rfl, e2⟩
        · obtain ⟨ρ2, e1, e2⟩ := t3 hz
          rw [if_neg hz, ob1_e, cnd_F, hw4, hwd4, ob1_e, if_pos (show b01 false = 0 from rfl), ob1_e, cnd_F, e1, ob1_e]
          exact ⟨τ, ρ2, μ', rfl, rfl, e2⟩
      | false =>
        obtain ⟨c8, -⟩ := c5 rfl
        rw [if_pos (show b01 false = 0 from rfl), if_pos (show b01 false = 0 from rfl), ob1_e, cnd_F]
        -- patience
        obtain ⟨x4, d1, d2⟩ := c8.word (F := F) hF hB (w := 4) (by decide)
        obtain ⟨μ4, d3, d4, d5, d6, d7⟩ := d2 hg3
        have hg4 : μ4 5 0 = 0 := by rw [d4 5 (by decide)]; exact hg3
        have hX4 : X0 τ (ρ 5 0) (ρ 6 0) (μ4 9) (μ4 14 0) := by rw [d4 9 (by decide), d4 14 (by decide)]; exact hX3
        have h64 : ρ 2 0 = μ4 6 0 := by rw [d4 6 (by decide)]; exact h63
        rw [d1, ob1_e, show mX4_takeWord F μ3 13 = some (b01 x4, μ4) from d3, ob2_e]
        cases x4 with
        | true =>
          obtain ⟨ρ', n1, n2, n3⟩ := d6 rfl
          obtain ⟨μ', t1, t2, t3⟩ := PR.told (F := F) (β := β) (b := b) (k := 1) (H := 9) hF hB (by decide) (fun _ => rfl) (h.1.mix n2.1) hρ hg4 h64 hX4 (d7 rfl)
          rw [if_neg (show ¬ b01 true = 0 by decide), if_neg (show ¬ b01 true = 0 by decide)]
          have t1' : (ob1 (mX4_once F μ4 (1 : Int32) (ρ 8 0)) fun μ27 => ob2 (mX4_number F μ27 (1 : Int32) (9 : Int32)) fun r28 μ29 => ob1 (wra μ29 9 451 (5 : Int32) r28) fun μ30 => some μ30) = some μ' := t1
          rw [t1']
          by_cases hz : ρ 6 0 = 0
          · obtain ⟨τ', ρ2, e1, e2⟩ := t2 hz
            rw [if_pos hz, ob1_e, cnd_T, ob1_e]
            have e1' : (ob1 (mX1_nextToken F β τ (pf ρ 6 1)) fun ρ30 => ob2 (mX1_readNumber F β τ ρ30 (1 : Int32) (9 : Int32)) fun r31 ρ32 => ob1 (some (pf τ 1 r31)) fun τ33 => some (τ33, ρ32)) = some (τ', ρ2) := e1
            rw [e1']
            exact ⟨τ', ρ2, μ', rfl, rfl, e2⟩
          · obtain ⟨ρ2, e1, e2⟩ := t3 hz
            rw [if_neg hz, ob1_e, cnd_F, e1, ob1_e]
            exact ⟨τ, ρ2, μ', rfl, rfl, e2⟩
        | false =>
          obtain ⟨d8, -⟩ := d5 rfl
          obtain ⟨ρ', μ', f1, f2, f3, f4⟩ := d8.fail (F := F) (β := β) (e := -2) (o := ρ 8 0) (o' := ρ 8 0) (by decide) (fun _ => rfl) X0 b
          rw [if_pos (show b01 false = 0 from rfl), if_pos (show b01 false = 0 from rfl), ob1_e, cnd_F, f1, ob1_e, f2, ob1_e]
          exact ⟨τ, ρ', μ', rfl, rfl, f3⟩
theorem c_L18e {i : Int32} (h : (if (ρ 4 0) ≤ i then some false else (if (ρ 1 0) = 0 then (if (ρ 7 0) = 0 then some false else some true) else some false)) = some false) : mX1_readSetup_L18 F β i τ ρ = some (.inl (τ, ρ)) := by
  unfold mX1_readSetup_L18
  rw [h, ob1_e, cnd_F]
/-- all statements -/
theorem PR.stmts (hF : 5000 ≤ F) (hB : BT β T L) (hT : ∀ i, i < L → T i ≠ -1) : ∀ (m i fuC fuM : Nat) (τ ρ μ : MS), PR T L ν X0 i τ ρ μ → i ≤ L → L ≤ i + m → m < fuC → m < fuM → ∃ τ' ρ' μ', loopM (fun st : Int32 × MS × MS => mX1_readSetup_L18 F β st.1 st.2.1 st.2.2) fuC (nI i, τ, ρ) = some (τ', ρ') ∧ loopM (fun st => mX4_load_L94 F st) fuM μ = some μ' ∧ PR T L ν X0 0 τ' ρ' μ' := by
  have hL := hB.1
  intro m
  induction m with
  | zero =>
    intro i fuC fuM τ ρ μ h h0 h1 h2 h3
    have h4 := h.1.1.1
    have hc : mX1_readSetup_L18 F β (nI i) τ ρ = some (.inl (τ, ρ)) := c_L18e (by rw [h4, if_pos ((nI_leI (by omega) (by omega)).mpr (by omega))])
    by_cases hg : μ 5 0 = 0
    · obtain ⟨⟨p, c, p1, p2, p3, p4, p5, p6⟩, hX⟩ := h.2.2.2 hg
      obtain ⟨r, n1, n2, n3, n4, -⟩ := h.next (F := F) hF hL
      obtain ⟨r37, μ38⟩ := r
      obtain ⟨-, p', p1', p2', n5, p6', -⟩ := n4 hg
      have n5 : r37 = byt T L p' := n5
      have hr : r37 = -1 := by rw [n5]; unfold byt; rw [if_pos (by omega)]
      refine ⟨τ, ρ, μ38, loop_gol hc (by omega), loop_gol (f := fun st => mX4_load_L94 F st) ?_ (by omega), n2.weak (Nat.zero_le _)⟩
      show mX4_load_L94 F μ = _
      unfold mX4_load_L94
      rw [m_goodT hg, ob1_e, if_neg (show ¬ (1 : Int32) = 0 by decide), n1, ob2_e, if_pos hr, ob2_e, cnd_F]
    · refine ⟨τ, ρ, μ, loop_gol hc (by omega), loop_gol (f := fun st => mX4_load_L94 F st) ?_ (by omega), h.weak (Nat.zero_le _)⟩
      show mX4_load_L94 F μ = _
      unfold mX4_load_L94
      rw [m_goodF hg, ob1_e, if_pos rfl, ob2_e, cnd_F]
  | succ m ih =>
    intro i fuC fuM τ ρ μ h h0 h1 h2 h3
    have h4 := h.1.1.1
    by_cases hg : μ 5 0 = 0
    · have hρ : ρ 1 0 = 0 := h.2.1.trans hg
      obtain ⟨r, n1, n2, n3, n4, -⟩ := h.next (F := F) hF hL
      obtain ⟨r37, μ38⟩ := r
      obtain ⟨n6, p, p1, p2, n5, p6, hsp⟩ := n4 hg
      have n2 : PR T L ν X0 i τ ρ μ38 := n2
      have n3 : μ38 5 = μ 5 := n3
      have n5 : r37 = byt T L p := n5
      have hg38 : μ38 5 0 = 0 := by rw [n3]; exact hg
      by_cases hk : p < L
      · have hr : r37 ≠ -1 := by rw [n5]; unfold byt; rw [if_neg (by omega)]; exact hT p hk
        have hkd : ¬ ρ 7 0 = 0 := by
          rw [p2.2.1]
          unfold kd
          rw [if_neg (by omega)]
          split
          · decide
          · split
            · decide
            · split
              · decide
              · split <;> decide
        obtain ⟨r2, k1, k2, k3, k4, -⟩ := n2.next (F := F) hF hL
        obtain ⟨r1, μ2⟩ := r2
        have k2 : PR T L ν X0 i τ ρ μ2 := k2
        have k3 : μ2 5 = μ38 5 := k3
        have hg2 : μ2 5 0 = 0 := by rw [k3]; exact hg38
        obtain ⟨τ1, ρ1, μ6, s1, s2, s3⟩ := k2.stmt (F := F) (β := β) hF hB hg2 (k4 hg38).1
        obtain ⟨ρ50, μ33, t1, t2, t3⟩ := s3.sign (F := F) hF hB (c := 59) rfl
        obtain ⟨τ', ρ', μ', e1, e2, e3⟩ := ih (i + 1) (fuC - 1) (fuM - 1) τ1 ρ50 μ33 t3 (by omega) (by omega) (by omega) (by omega)
        refine ⟨τ', ρ', μ', (loop_gen ?_ (by omega)).trans e1, (loop_gen (f := fun st => mX4_load_L94 F st) (a' := μ33) ?_ (by omega)).trans e2, e3⟩
        · show mX1_readSetup_L18 F β (nI i) τ ρ = _
          rw [c_L18 (by rw [h4, if_neg (nle (by omega) (by omega) (by omega)), if_pos hρ, if_neg hkd]), s1, ob2_e, t1, ob1_e, nI_s]
        · show mX4_load_L94 F μ = _
          unfold mX4_load_L94
          rw [m_goodT hg, ob1_e, if_neg (show ¬ (1 : Int32) = 0 by decide), n1, ob2_e, if_neg hr, ob2_e, cnd_T, m_stmt, k1, ob2_e, s2, ob1_e, t2, ob1_e, ob1_e]
      · have hr : r37 = -1 := by rw [n5]; unfold byt; rw [if_pos (by omega)]
        have hk0 : ρ 7 0 = 0 := by rw [p2.2.1]; unfold kd; rw [if_pos (by omega)]
        refine ⟨τ, ρ, μ38, loop_gol (c_L18e ?_) (by omega), loop_gol (f := fun st => mX4_load_L94 F st) ?_ (by omega), n2.weak (Nat.zero_le _)⟩
        · by_cases q : (ρ 4 0) ≤ nI i
          · rw [if_pos q]
          · rw [if_neg q, if_pos hρ, if_pos hk0]
        · show mX4_load_L94 F μ = _
          unfold mX4_load_L94
          rw [m_goodT hg, ob1_e, if_neg (show ¬ (1 : Int32) = 0 by decide), n1, ob2_e, if_pos hr, ob2_e, cnd_F]
    · have hρ : ¬ ρ 1 0 = 0 := fun q => hg (h.2.1.symm.trans q)
      refine ⟨τ, ρ, μ, loop_gol (c_L18e ?_) (by omega), loop_gol (f := fun st => mX4_load_L94 F st) ?_ (by omega), h.weak (Nat.zero_le _)⟩
      · by_cases q : (ρ 4 0) ≤ nI i
        · rw [if_pos q]
        · rw [if_neg q, if_neg hρ]
      · show mX4_load_L94 F μ = _
        unfold mX4_load_L94
        rw [m_goodF hg, ob1_e, if_pos rfl, ob2_e, cnd_F]
/-- the text from its first byte -/
theorem PR.text (hF : 5000 ≤ F) (hB : BT β T L) (hT : ∀ i, i < L → T i ≠ -1) (h4 : ρ 4 0 = nI L) (h9 : ρ 9 0 = 0) (h1 : ρ 1 0 = 0) (h2 : ρ 2 0 = -1) (hμ : μ 3 0 = nI L ∧ μ 1 = T ∧ μ 4 0 = 0 ∧ μ 5 0 = 0 ∧ μ 6 0 = -1) (hX : X0 τ (ρ 5 0) (ρ 6 0) (μ 9) (μ 14 0)) (hs : SF τ) : ∃ τ' ρ' μ', mX1_readSetup F β τ ρ = some (τ', ρ') ∧ (ob2 (mX4_takeWord F μ 9) fun r21 μ22 => ob1 (if r21 = 0 then ob1 (mX4_report F μ22 (-2 : Int32) (μ22 4 0)) fun μ28 => some μ28 else some μ22) fun μ24 => ob1 (mX4_expect F μ24 (59 : Int32)) fun μ29 => loopM (fun st => mX4_load_L94 F st) F μ29) = some μ' ∧ PR T L μ X0 0 τ' ρ' μ' := by
  have hL := hB.1
  obtain ⟨m1, m2, m3, m4, m5⟩ := hμ
  obtain ⟨ρ1, n1, n2, n3⟩ := c_nextT (F := F) (τ := τ) hF hB h4 (e := 0) h9 (Nat.zero_le _)
  have hsl := sk_le (T := T) (L := L) (Nat.zero_le L)
  have hp0 : PR T L μ X0 0 τ ρ1 μ := ⟨⟨⟨by rw [n3 4 (by decide)]; exact h4, m1, m2, fun _ _ _ _ _ _ _ => rfl⟩, hs, ⟨_, hsl, n2⟩, 0, Nat.zero_le _, m3⟩, by rw [n3 1 (by decide), m4]; exact h1, by rw [n3 2 (by decide), m5]; exact h2, fun _ => ⟨⟨_, 0, hsl, n2, Nat.zero_le _, m3, rfl, Nat.zero_le _⟩, by rw [n3 5 (by decide), n3 6 (by decide)]; exact hX⟩⟩
  obtain ⟨r, ρ2, r', μ22, k1, k2, k3, k4, k5, -⟩ := hp0.skips (F := F) hF hB (w := 0) (by decide)
  obtain ⟨rfl, k6⟩ := k5 m4
  have hfin : ∀ (ρ3 μ24 : MS), PR T L μ X0 0 τ ρ3 μ24 → ∃ τ' ρ' μ', (ob1 (mX1_takeSign F β τ ρ3 (59 : Int32)) fun ρ3 => ob2 (loopM (fun st : Int32 × MS × MS => mX1_readSetup_L18 F β st.1 st.2.1 st.2.2) F ((0 : Int32), τ, ρ3)) fun τ51 ρ52 => some (τ51, ρ52)) = some (τ', ρ') ∧ (ob1 (mX4_expect F μ24 (59 : Int32)) fun μ29 => loopM (fun st => mX4_load_L94 F st) F μ29) = some μ' ∧ PR T L μ X0 0 τ' ρ' μ' := fun ρ3 μ24 hp => by
    obtain ⟨ρ4, μ29, t1, t2, t3⟩ := hp.sign (F := F) hF hB (c := 59) rfl
    obtain ⟨τ', ρ', μ', e1, e2, e3⟩ := PR.stmts (F := F) (β := β) (ν := μ) hF hB hT L 0 F F τ ρ4 μ29 (t3.weak (Nat.zero_le _)) (Nat.zero_le _) (by omega) (by omega) (by omega)
    refine ⟨τ', ρ', μ', ?_, ?_, e3⟩
    · rw [t1, ob1_e]
      rw [show loopM (fun st : Int32 × MS × MS => mX1_readSetup_L18 F β st.1 st.2.1 st.2.2) F ((0 : Int32), τ, ρ4) = some (τ', ρ') from e1, ob2_e]
    · rw [t2, ob1_e]; exact e2
  unfold mX1_readSetup mX1_takeWord
  rw [n1, ob1_e, k1, ob2_e, show mX4_takeWord F μ 9 = some (r, μ22) from k2, ob2_e]
  by_cases hr : r = 0
  · obtain ⟨rfl, k7⟩ := k6 hr
    obtain ⟨ρ3, μ24, f1, f2, f3, -⟩ := k3.fail (F := F) (β := β) (e := -2) (o := ρ2 8 0) (o' := μ22 4 0) (by decide) (fun _ => k7.symm) X0 0
    rw [if_pos hr, if_pos hr, f1, f2]
    simp only [ob1_e]
    exact hfin ρ3 μ24 f3
  · rw [if_neg hr, if_neg hr]
    simp only [ob1_e]
    exact hfin ρ2 μ22 k3
end RT
