/-! pure: the reference's tick, whole -/
theorem fo_keepR {α β : Type} {g : Nat → α → α} (q : α → β) {n a : Nat} {x : α} (h : ∀ s x, a ≤ s → s < a + n → q (g s x) = q x) : q (fo g a n x) = q x := by
  have := fo_ind (g := g) (fun _ y => q y = q x) (n := n) (a := a) (x := x) rfl (fun s y h1 h2 hy => (h s y h1 h2).trans hy)
  exact this
theorem step_j {τ σ : MS} {j s c i : Nat} (h1 : 5 ≤ c) (h2 : c ≤ 8) : stepF τ j s σ c i = σ c i := by
  unfold stepF takeF
  repeat' split
  all_goals first | rfl | (repeat rw [u2_n _ _ _ _ _ _ (by omega)])
theorem mv_j {τ σ : MS} {j s c i : Nat} (h1 : 5 ≤ c) (h2 : c ≤ 8) : mvF τ j s σ c i = σ c i := by
  unfold mvF
  split
  · exact step_j h1 h2
  · rfl
theorem wd_j {τ σ : MS} {j s c i : Nat} (h2 : c ≤ 8) : wdF τ j s σ c i = σ c i := by
  unfold wdF
  split
  · rw [u2_n _ _ _ _ _ _ (by omega)]
  · rfl
section MT
variable {τ σ : MS} {w : Nat → Int32} {μ0 μ : MS} {F s j k : Nat} {p v : Int32} {B : Int}
theorem m_goes (hI : SI τ) (hB : B ≤ 2147480000) (h : MR τ σ w μ0 μ) (hi : Inv B τ j σ σ) (hj : j < Jn τ) (h1 : σ 5 j = 1) (hp : σ 6 j = p) (hF : 5000 ≤ F) : ok (loopM (fun st : Int32 × MS => mX4_goOn_L9 F p (nI j) st.1 st.2) F ((0 : Int32), μ)) (fun μ' => MR τ (mvsF τ j σ) w μ0 μ') := by
  have hA := hI.A hj
  have hN := hI.N.2
  refine loop_rel (f := fun st : Int32 × MS => mX4_goOn_L9 F p (nI j) st.1 st.2) (fun i μ => MR τ (fo (mvF τ j) (An τ j) i σ) w μ0 μ) (En τ j - An τ j) (fun i μ hi' h => ?_) (fun μ h => ?_) (En τ j - An τ j) 0 F μ (by omega) (by omega) h
  · show ok (mX4_goOn_L9 F p (nI j) (nI i) μ) _
    have hinv := hi.fo (g := mvF τ j) (fun s x a b c => c.mv hI hj hB a b) i (by omega)
    have e5 : fo (mvF τ j) (An τ j) i σ 5 j = 1 := (hinv.2.2.2.2 5 (by decide) (by decide)).trans h1
    have e6 : fo (mvF τ j) (An τ j) i σ 6 j = p := (hinv.2.2.2.2 6 (by decide) (by decide)).trans hp
    have e : fo (mvF τ j) (An τ j) (i + 1) σ = mvF τ j (An τ j + i) (fo (mvF τ j) (An τ j) i σ) := fo_end _ _ _ _
    rw [e]
    have hV := hinv.2.2.1
    generalize fo (mvF τ j) (An τ j) i σ = σ1 at h e5 e6 hV ⊢
    unfold mX4_goOn_L9 mvF prs
    rw [h.cnt hI hj, ob1_e, if_neg (nle (by omega) (by omega) hi'), m_isAt hI h hj (by omega), ob1_e, e6]
    by_cases q1 : τ 11 (An τ j + i) = p
    · obtain ⟨μ', e1, e2⟩ := m_go (F := F) (k := i) hI hB h hV hj (by omega) e5 hF
      simp only [q1, decide_true, b01, if_true, show ¬ (1 : Int32) = 0 by decide, if_false, e1, ob1_e, nI_s]
      exact ok_some ⟨_, rfl, e2⟩
    · simp only [q1, decide_false, b01, if_true, if_false, ob1_e, nI_s, Bool.false_eq_true]
      exact ok_some ⟨_, rfl, h⟩
  · show ok (mX4_goOn_L9 F p (nI j) (nI (En τ j - An τ j)) μ) _
    unfold mX4_goOn_L9
    rw [h.cnt hI hj, ob1_e, if_pos (Int32.le_refl _)]
    exact ok_some ⟨_, rfl, h⟩
theorem m_withs (hI : SI τ) (h : MR τ σ w μ0 μ) (hj : j < Jn τ) (hp : σ 6 j = p) (hF : 5000 ≤ F) : ok (loopM (fun st : Int32 × MS => mX4_goOn_L93 F p (nI j) st.1 st.2) F ((0 : Int32), μ)) (fun μ' => MR τ (withF τ j σ) w μ0 μ') := by
  have hA := hI.A hj
  have hN := hI.N.2
  refine loop_rel (f := fun st : Int32 × MS => mX4_goOn_L93 F p (nI j) st.1 st.2) (fun i μ => MR τ (fo (wdF τ j) (An τ j) i σ) w μ0 μ) (En τ j - An τ j) (fun i μ hi' h => ?_) (fun μ h => ?_) (En τ j - An τ j) 0 F μ (by omega) (by omega) h
  · show ok (mX4_goOn_L93 F p (nI j) (nI i) μ) _
    have hsN := hI.sN (s := An τ j + i) hj (by omega)
    have h40 := hI.s40 hsN
    have e6 : fo (wdF τ j) (An τ j) i σ 6 j = p := (fo_keep (fun x : MS => x 6 j) (fun s x => wd_j (by decide)) i (An τ j) σ).trans hp
    have e : fo (wdF τ j) (An τ j) (i + 1) σ = wdF τ j (An τ j + i) (fo (wdF τ j) (An τ j) i σ) := fo_end _ _ _ _
    rw [e]
    generalize fo (wdF τ j) (An τ j) i σ = σ1 at h e6 ⊢
    unfold mX4_goOn_L93 wdF prs
    rw [h.cnt hI hj, ob1_e, if_neg (nle (by omega) (by omega) hi'), m_isAt hI h hj (by omega), ob1_e, h.st hI hj (by omega), ob1_e, h.at hI hj, ob1_e, wS4 h40, ob1_e, e6]
    by_cases q1 : τ 11 (An τ j + i) = p
    · by_cases q2 : σ1 9 (An τ j + i) = 1
      · simp only [q1, q2, decide_true, b01, if_true, show ¬ (1 : Int32) = 0 by decide, if_false, ob1_e, cnd_T, nI_s, Bool.and_self]
        exact ok_some ⟨_, rfl, h.state hI hsN (by decide) (by decide)⟩
      · simp only [q1, q2, decide_true, decide_false, b01, if_true, show ¬ (1 : Int32) = 0 by decide, if_false, ob1_e, cnd_F, nI_s, Bool.and_false, Bool.false_eq_true]
        exact ok_some ⟨_, rfl, h⟩
    · simp only [q1, decide_false, b01, if_true, if_false, ob1_e, cnd_F, nI_s, Bool.false_and, Bool.false_eq_true]
      exact ok_some ⟨_, rfl, h⟩
  · show ok (mX4_goOn_L93 F p (nI j) (nI (En τ j - An τ j)) μ) _
    unfold mX4_goOn_L93
    rw [h.cnt hI hj, ob1_e, if_pos (Int32.le_refl _)]
    exact ok_some ⟨_, rfl, h⟩
/-- withdrawing leaves what has failed -/
theorem with_4 {τ σ : MS} {j t : Nat} (h : σ 9 t = 4) : withF τ j σ 9 t = 4 := by
  unfold withF
  have := fo_ind (g := wdF τ j) (fun _ y => y 9 t = 4) (n := En τ j - An τ j) (a := An τ j) (x := σ) h (fun s y h1 h2 hy => by
    unfold wdF
    split
    · next q =>
      rw [u2_at]
      split
      · next q2 =>
        rw [Bool.and_eq_true, decide_eq_true_eq] at q
        rw [← q2.2, hy] at q
        exact absurd q.2 (by decide)
      · exact hy
    · exact hy)
  exact this
theorem over_not {τ σ : MS} {j : Nat} (h : stHas τ σ j 4 = true) : over τ σ j = false := by
  unfold stHas at h
  unfold over
  rw [exB_iff] at h
  obtain ⟨s, h1, h2, h3⟩ := h
  rw [Bool.and_eq_true, decide_eq_true_eq] at h3
  have : exB (fun s => prs τ σ j s && opn σ s) (An τ j) (En τ j - An τ j) = true := by
    rw [exB_iff]
    refine ⟨s, h1, h2, ?_⟩
    show (prs τ σ j s && opn σ s) = true
    rw [h3.1]
    unfold opn
    rw [h3.2]
    decide
  rw [this]; rfl
theorem stHas_with {τ σ : MS} {j : Nat} (h : stHas τ σ j 4 = true) : stHas τ (withF τ j σ) j 4 = true := by
  unfold stHas at h ⊢
  rw [exB_iff] at h ⊢
  obtain ⟨s, h1, h2, h3⟩ := h
  refine ⟨s, h1, h2, ?_⟩
  rw [Bool.and_eq_true, decide_eq_true_eq] at h3 ⊢
  have e6 : withF τ j σ 6 j = σ 6 j := fo_keep (fun x : MS => x 6 j) (fun s x => wd_j (by decide)) _ _ σ
  refine ⟨?_, with_4 h3.2⟩
  unfold prs
  rw [e6]
  exact h3.1
theorem m_goOn (hI : SI τ) (hB : B ≤ 2147480000) (h : MR τ σ w μ0 μ) (hS : LSp τ σ j) (hJ : LJ τ σ j) (hV : LV B τ σ) (h0 : 0 ≤ (σ 1 0).toInt) (hj : j < Jn τ) (h1 : σ 5 j = 1) (hF : 5000 ≤ F) : ok (mX4_goOn F μ (nI j)) (fun μ' => MR τ (moveF τ j σ) w μ0 μ') := by
  have h8 := hI.j8 hj
  obtain ⟨p, p1, p2⟩ := hJ.2.1 h1
  have hst := Inv.start (j := j) hS hV h0
  have hinv := hst.fo (g := mvF τ j) (fun s x a b c => c.mv hI hj hB a b) (En τ j - An τ j) (Nat.le_refl _)
  have e5 : mvsF τ j σ 5 j = 1 := (hinv.2.2.2.2 5 (by decide) (by decide)).trans h1
  have e6 : mvsF τ j σ 6 j = nI p := (hinv.2.2.2.2 6 (by decide) (by decide)).trans p1
  obtain ⟨μ1, l1, r1⟩ := m_goes (F := F) hI hB h hst hj h1 p1 hF
  unfold mX4_goOn moveF
  rw [ofJ4 h8, (h.rj hj).2.2.2.2.1 h1, p1, ob1_e, l1, ob1_e, m_over hI r1 hj hF, ob1_e]
  have eo : overP τ (mvsF τ j σ) j (nI p) = over τ (mvsF τ j σ) j := by unfold overP over prs; rw [e6]
  rw [eo]
  obtain ⟨c4, d1, d2⟩ := m_count (F := F) (p := nI p) (v := 4) hI r1 hj hF
  have es : ∀ v, exB (fun s => decide (τ 11 s = nI p) && decide (mvsF τ j σ 9 s = v)) (An τ j) (En τ j - An τ j) = stHas τ (mvsF τ j σ) j v := fun v => by unfold stHas prs; rw [e6]
  rw [es] at d2
  generalize mvsF τ j σ = σ1 at e5 e6 r1 eo d2 es ⊢
  cases hf : stHas τ σ1 j 4 with
  | true =>
    have ho := over_not hf
    have ho2 := over_not (stHas_with hf)
    have hc : ¬ c4 = 0 := fun q => by rw [d2.mp q] at hf; cases hf
    obtain ⟨μ2, l2, r2⟩ := m_withs (F := F) hI r1 hj e6 hF
    obtain ⟨c2, d3, d4⟩ := m_count (F := F) (p := nI p) (v := 2) hI r2 hj hF
    have e6' : withF τ j σ1 6 j = nI p := (fo_keep (fun x : MS => x 6 j) (fun s x => wd_j (by decide)) _ _ σ1).trans e6
    have es2 : exB (fun s => decide (τ 11 s = nI p) && decide (withF τ j σ1 9 s = 2)) (An τ j) (En τ j - An τ j) = stHas τ (withF τ j σ1) j 2 := by unfold stHas prs; rw [e6']
    rw [es2] at d4
    rw [ho, if_pos (by decide), d1, ob1_e, if_neg hc, l2, ob1_e, d3, ob1_e]
    have he : endF τ j true (withF τ j σ1) = if stHas τ (withF τ j σ1) j 2 = false then u2 (u2 (withF τ j σ1) 5 j 2) 8 j 0 else withF τ j σ1 := by
      unfold endF
      rw [ho2]
      cases stHas τ (withF τ j σ1) j 2 <;> rfl
    rw [if_pos rfl, he]
    by_cases hr : c2 = 0
    · rw [if_pos hr, if_pos (d4.mp hr)]
      obtain ⟨μ3, l3, r3⟩ := m_beU (F := F) hI r2 hj
      rw [l3, ob1_e, ob1_e]
      exact ok_some r3
    · rw [if_neg hr, if_neg (fun q => hr (d4.mpr q)), ob1_e]
      exact ok_some r2
  | false =>
    have he : endF τ j false (if false = true then withF τ j σ1 else σ1) = if over τ σ1 j = true then entF τ j (σ1 6 j + 1) σ1 else σ1 := by
      rw [show (if false = true then withF τ j σ1 else σ1) = σ1 from if_neg (by decide)]
      unfold endF
      cases over τ σ1 j <;> rfl
    rw [he]
    cases ho : over τ σ1 j with
    | true =>
      rw [if_neg (show ¬ b01 true = 0 by decide), if_pos rfl]
      exact m_goOnE hI r1 hj e5 e6 p2 hF
    | false =>
      rw [if_pos (show b01 false = 0 by decide), d1, ob1_e, if_pos (d2.mpr hf), if_neg (by decide)]
      exact ok_some r1
theorem m_putB (hI : SI τ) (h : MR τ σ w μ0 μ) (hs : s < Nn τ) : ok (mX4_putBack F μ (nI (91 + 9 * s))) (fun μ' => MR τ (u2 (u2 σ 3 (Kn τ s) (σ 3 (Kn τ s) + τ 13 s)) 9 s 5) w μ0 μ') := by
  have hK := hI.K hs
  have hk6 := hI.k6 hK.2.1
  have h40 := hI.s40 hs
  unfold mX4_putBack
  rw [m_levelAt hI h hs, ob1_e, rK0 hk6, (h.rk hK.2.1).1, ob1_e, rS2 h40, (h.rs hs).2.2.1, ob1_e, wK0 hk6, ob1_e, wS4 h40, ob1_e]
  exact ok_some ((h.level hI hK.2.1).state hI hs (by decide) (by decide))
theorem m_undo1 (hI : SI τ) (h : MR τ σ w μ0 μ) (hS : LSp τ σ j) (hJ : LJ τ σ j) (hj : j < Jn τ) (h5 : σ 5 j = 2) (hF : 5000 ≤ F) : ok (mX4_undoOne F μ (nI j)) (fun μ' => MR τ (undoF τ j σ) w μ0 μ') := by
  have h8 := hI.j8 hj
  have hA := hI.A hj
  have hN := hI.N.2
  unfold mX4_undoOne undoF
  rw [m_lsd hI h hj hF, ob1_e, jAt, ob1_e]
  cases hd : lsd τ σ j 0 with
  | none =>
    obtain ⟨μ', e1, e2⟩ := m_rest (F := F) (v := 4) hI h hj (by decide) (by decide) (by decide)
    rw [if_neg (show ¬ (0 : Int32) ≤ oI ((none : Option Nat).map (fun s => s - An τ j)) from by show ¬ (0 : Int32) ≤ -1; decide), e1, ob1_e]
    exact ok_some e2
  | some s =>
    obtain ⟨h1, h2, h3⟩ := lsd_in hd
    have hsN := hI.sN hj h2
    have h40 := hI.s40 hsN
    have hs := h.rs hsN
    show ok (if (0 : Int32) ≤ nI (s - An τ j) then ob1 (mX4_stepAt F μ (nI j) (nI (s - An τ j))) _ else _) (fun μ' => MR τ (if σ 10 s ≤ 0 then _ else _) w μ0 μ')
    have h09 : (0 : Int32) ≤ nI (s - An τ j) := (nI_leI (a := 0) (by decide) (by omega)).mpr (Nat.zero_le _)
    rw [if_pos h09, h.at hI hj, show An τ j + (s - An τ j) = s by omega, ob1_e, rS5 h40, hs.2.2.2.2.2.1, ob1_e]
    have hb := (hS s h1 h2).1
    have hz : σ 10 s = 0 ↔ σ 10 s ≤ 0 := by
      have e0 : (0 : Int32).toInt = 0 := rfl
      rw [eqI, leI, e0]; have := hb.1; omega
    by_cases h4 : σ 10 s ≤ 0
    · rw [if_pos (hz.mpr h4), if_pos h4]
      obtain ⟨μ', e1, e2⟩ := m_putB (F := F) hI h hsN
      rw [e1, ob1_e, wJ7 h8, ob1_e]
      exact ok_some (e2.uf hI hj)
    · rw [if_neg (fun q => h4 (hz.mp q)), if_neg h4, ob1_e, wS5 h40, ob1_e, rG6, ob1_e, wG6, ob1_e, rJ7 h8, ob1_e, wJ7 h8, ob1_e, rJ7 h8, ob1_e, rG5, ob1_e]
      have v6 : u2 μ 8 (96 + 9 * s) (σ 10 s - 1) 8 6 = σ 2 0 := by rw [u2_8, if_neg (by omega)]; exact h.rg.2.2.2.2.2.2
      rw [v6]
      have v26 : u2 (u2 μ 8 (96 + 9 * s) (σ 10 s - 1)) 8 6 (σ 2 0 + 1) 8 (26 + 9 * j) = σ 8 j := by
        rw [u2_8, if_neg (by omega), u2_8, if_neg (by omega)]; exact (h.rj hj).2.2.2.2.2.2.2.2.2 h5
      rw [v26, u2_s]
      have hm : MR τ (ufF j s σ) w μ0 (u2 (u2 (u2 μ 8 (96 + 9 * s) (σ 10 s - 1)) 8 6 (σ 2 0 + 1)) 8 (26 + 9 * j) (σ 8 j + 1)) := ((h.fls hI hsN).fail hI).uf hI hj
      rw [hm.rg.2.2.2.2.2.1]
      obtain ⟨u1, u2'⟩ := hJ.2.2.1 h5
      obtain ⟨p1, p2⟩ := hI.P
      have e1 : (1 : Int32).toInt = 1 := rfl
      by_cases h6 : σ 8 j + 1 < τ 1 0
      · have h7 : ¬ σ 8 j + 1 = τ 1 0 := fun q => by rw [q] at h6; exact Int32.lt_irrefl h6
        rw [if_neg h7, if_pos h6, ob1_e]
        exact ok_some hm
      · have h7 : σ 8 j + 1 = τ 1 0 := by
          rw [ltI, aI (by omega) (by omega)] at h6
          rw [eqI, aI (by omega) (by omega)]
          omega
        rw [if_pos h7, if_neg h6]
        obtain ⟨μ', e2, e3⟩ := m_rest (F := F) (v := 5) hI hm hj (by decide) (by decide) (by decide)
        rw [e2, ob1_e, ob1_e]
        exact ok_some e3
end MT
