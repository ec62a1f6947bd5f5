/-! pure: ticks in which nothing happens; many ticks -/
def idl1 (τ σ : MS) (j : Nat) (U : Int) : Prop := (∀ s, An τ j ≤ s → s < En τ j → prs τ σ j s = true → σ 9 s ≠ 1 ∧ (σ 9 s = 2 → U ≤ (σ 12 s).toInt + (τ 14 s).toInt)) ∧ ∃ s, An τ j ≤ s ∧ s < En τ j ∧ prs τ σ j s = true ∧ σ 9 s = 2
def idlJ (τ σ : MS) (j : Nat) (U : Int) : Prop := (σ 5 j = 0 → U ≤ (τ 6 j).toInt) ∧ (σ 5 j = 1 → idl1 τ σ j U) ∧ σ 5 j ≠ 2
def Idl (τ σ : MS) (U : Int) : Prop := ∀ j, j < Jn τ → idlJ τ σ j U
theorem idlJ.le {τ σ : MS} {j : Nat} {U V : Int} (h : idlJ τ σ j U) (hV : V ≤ U) : idlJ τ σ j V :=
  ⟨fun q => Int.le_trans hV (h.1 q), fun q => ⟨fun s a b c => ⟨((h.2.1 q).1 s a b c).1, fun r => Int.le_trans hV (((h.2.1 q).1 s a b c).2 r)⟩, (h.2.1 q).2⟩, h.2.2⟩
theorem Idl.time {τ σ : MS} {U : Int} {x : Int32} (h : Idl τ σ U) : Idl τ (pf σ 1 x) U := by
  intro j hj
  have e : ∀ c i, c ≠ 1 → pf σ 1 x c i = σ c i := fun c i hc => pf_n _ _ _ _ _ hc
  have := h j hj
  unfold idlJ idl1 prs at this ⊢
  rw [e 5 j (by decide), e 6 j (by decide)]
  refine ⟨this.1, fun q => ⟨fun s a b c => ?_, ?_⟩, this.2.2⟩
  · rw [e 9 s (by decide), e 12 s (by decide)]; exact (this.2.1 q).1 s a b c
  · obtain ⟨s, a, b, c, d⟩ := (this.2.1 q).2
    exact ⟨s, a, b, c, by rw [e 9 s (by decide)]; exact d⟩
section ID
variable {τ σ : MS} {w : Nat → Int32} {μ0 μ : MS} {F s j k : Nat} {p v : Int32} {B T U : Int}
theorem idle_move (hI : SI τ) (hj : j < Jn τ) (hS : LSp τ σ j) (hT : (σ 1 0).toInt ≤ 1000000) (h : idl1 τ σ j U) (hU : (σ 1 0).toInt < U) : moveF τ j σ = σ := by
  have hA := hI.A hj
  have hmv : mvsF τ j σ = σ := by
    unfold mvsF
    refine fo_id (fun s h1 h2 => ?_)
    unfold mvF
    split
    · next hp =>
      obtain ⟨a, b⟩ := h.1 s h1 (by omega) hp
      unfold stepF
      split
      · next h9 =>
        have hd := (hI.K (hI.sN (s := s) hj (by omega))).2.2.2.1
        have hb := (hS s h1 (by omega)).2 h9
        have := b h9
        obtain ⟨d1, d2⟩ := hd
        rw [if_pos (by rw [ltI, sI (by omega) (by omega)]; omega)]
      · first | rfl | rw [if_neg a]
    · rfl
  have hwd : withF τ j σ = σ := by
    unfold withF
    refine fo_id (fun s h1 h2 => ?_)
    unfold wdF
    split
    · next hp =>
      rw [Bool.and_eq_true, decide_eq_true_eq] at hp
      exact absurd hp.2 (h.1 s h1 (by omega) hp.1).1
    · rfl
  obtain ⟨s, h1, h2, h3, h4⟩ := h.2
  have hov : over τ σ j = false := by
    have : exB (fun s => prs τ σ j s && opn σ s) (An τ j) (En τ j - An τ j) = true := by
      rw [exB_iff]
      refine ⟨s, h1, by omega, ?_⟩
      show (prs τ σ j s && opn σ s) = true
      rw [h3]
      unfold opn
      rw [h4]
      decide
    unfold over
    rw [this]; rfl
  have hst : stHas τ σ j 2 = true := by
    unfold stHas
    rw [exB_iff]
    refine ⟨s, h1, by omega, ?_⟩
    show (prs τ σ j s && decide (σ 9 s = 2)) = true
    rw [h3, h4]
    decide
  unfold moveF
  rw [hmv, hwd]
  have : (if stHas τ σ j 4 = true then σ else σ) = σ := by split <;> rfl
  rw [this]
  unfold endF
  rw [hov, hst]
  simp
theorem idle_tick (hI : SI τ) (hW : WI B T τ σ) (hT : T ≤ 1000000) (h : Idl τ σ U) (hU : (σ 1 0).toInt < U) : tickF τ σ = pf σ 1 (σ 1 0 + 1) := by
  have e1 : fo (ph1 τ) 0 (Jn τ) σ = σ := fo_id (fun j _ hj => by
    have hh := h j (by omega)
    unfold ph1
    rw [if_neg hh.2.2, if_neg]
    rintro ⟨a, b⟩
    have := hh.1 a
    rw [b] at this
    omega)
  have e2 : fo (ph2 τ) 0 (Jn τ) σ = σ := fo_id (fun j _ hj => by
    have hh := h j (by omega)
    unfold ph2
    split
    · next q => exact idle_move hI (by omega) (hW.2.1 j (by omega)).1 (by have := hW.2.2.1.2; omega) (hh.2.1 q) hU
    · rfl)
  have e3 : fo (ph3 τ (σ 5)) 0 (Jn τ) σ = σ := fo_id (fun j _ hj => by
    unfold ph3
    rw [if_neg (h j (by omega)).2.2])
  unfold tickF ph123
  rw [e1, e2, e3]
theorem c_nextF (hI : SI τ) (hj : j < Jn τ) (hS : LSp τ σ j) (hT : (σ 1 0).toInt ≤ 1000000) (hF : 5000 ≤ F) : ok (mX2_nextEventTimeForward F τ σ (nI j)) (fun r => r.toInt ≤ (σ 1 0).toInt ∨ idl1 τ σ j r.toInt) := by
  have hA := hI.A hj
  have hN := hI.N.2
  have hl := loop_relX (f := fun st : Int32 × Int32 => mX2_nextEventTimeForward_L24 F (nI (En τ j)) (nI j) τ σ st.1 st.2) (fun i v => An τ j ≤ i ∧ (∀ s, An τ j ≤ s → s < i → prs τ σ j s = true → σ 9 s ≠ 1 ∧ (σ 9 s = 2 → v.toInt ≤ (σ 12 s).toInt + (τ 14 s).toInt)) ∧ (v = 1000000 ∨ ∃ s, An τ j ≤ s ∧ s < i ∧ prs τ σ j s = true ∧ σ 9 s = 2)) (Q := fun r => r = .inl (σ 1 0) ∨ ∃ v, r = .inr v ∧ (v = 1000000 ∨ idl1 τ σ j v.toInt)) (En τ j) (fun i v hi hR => by
    show ok (mX2_nextEventTimeForward_L24 F (nI (En τ j)) (nI j) τ σ (nI i) v) _
    obtain ⟨r0, r1, r2⟩ := hR
    have hsN := hI.sN (s := i) hj hi
    have hd := (hI.K hsN).2.2.2.1
    have hb := hS i r0 hi
    obtain ⟨d1, d2⟩ := hd
    unfold mX2_nextEventTimeForward_L24
    rw [if_neg (nle (by omega) (by omega) hi), c_prs hI hj hsN, ob1_e, r40 hI hsN, ob1_e, r40 hI hsN, ob1_e, r40 hI hsN, ob1_e, ob1_e]
    cases hp : prs τ σ j i with
    | false =>
      rw [if_pos (by decide), ob1_e, cnd_F, if_pos (by decide), ob1_e, cnd_F, ob1_e, nI_s]
      refine ok_some (Or.inr ⟨v, rfl, by omega, fun s a b c => ?_, ?_⟩)
      · by_cases q : s = i
        · subst q; rw [hp] at c; cases c
        · exact r1 s a (by omega) c
      · rcases r2 with r2 | ⟨s, a, b, c, d⟩
        · exact Or.inl r2
        · exact Or.inr ⟨s, a, by omega, c, d⟩
    | true =>
      by_cases h1 : σ 9 i = 1
      · rw [if_neg (by decide), if_pos h1, ob1_e, cnd_T]
        exact ok_some (Or.inl ⟨_, rfl, Or.inl rfl⟩)
      · rw [if_neg (by decide), if_neg h1, ob1_e, cnd_F, if_neg (by decide)]
        by_cases h2 : σ 9 i = 2
        · have hb2 := hb.2 h2
          have es : (σ 12 i + τ 14 i).toInt = (σ 12 i).toInt + (τ 14 i).toInt := aI (by omega) (by omega)
          rw [if_pos h2, ob1_e, cnd_T, ob1_e, nI_s]
          refine ok_some (Or.inr ⟨_, rfl, by omega, fun s a b c => ?_, Or.inr ⟨i, r0, by omega, hp, h2⟩⟩)
          by_cases q : s = i
          · subst q
            refine ⟨h1, fun _ => ?_⟩
            by_cases q : σ 12 s + τ 14 s < v
            · rw [if_pos q, es]; exact Int.le_refl _
            · rw [if_neg q]; rw [ltI, es] at q; omega
          · have := r1 s a (by omega) c
            refine ⟨this.1, fun q => ?_⟩
            have := this.2 q
            by_cases q : σ 12 i + τ 14 i < v
            · rw [if_pos q, es]; rw [ltI, es] at q; omega
            · rw [if_neg q]; exact this
        · rw [if_neg h2, ob1_e, cnd_F, ob1_e, nI_s]
          refine ok_some (Or.inr ⟨v, rfl, by omega, fun s a b c => ?_, ?_⟩)
          · by_cases q : s = i
            · subst q; exact ⟨h1, fun q => absurd q h2⟩
            · exact r1 s a (by omega) c
          · rcases r2 with r2 | ⟨s, a, b, c, d⟩
            · exact Or.inl r2
            · exact Or.inr ⟨s, a, by omega, c, d⟩) (fun v hR => by
    show ok (mX2_nextEventTimeForward_L24 F (nI (En τ j)) (nI j) τ σ (nI (En τ j)) v) _
    unfold mX2_nextEventTimeForward_L24
    rw [if_pos (Int32.le_refl _)]
    refine ok_some ⟨_, rfl, Or.inr ⟨v, rfl, ?_⟩⟩
    rcases hR.2.2 with q | q
    · exact Or.inl q
    · exact Or.inr ⟨hR.2.1, q⟩) (En τ j - An τ j) (An τ j) F 1000000 (by omega) (by omega) ⟨Nat.le_refl _, fun s a b => absurd a (by omega), Or.inl rfl⟩
  unfold mX2_nextEventTimeForward
  rw [rE hI hj, ob1_e, rA hI hj, ob1_e]
  obtain ⟨r, l1, l2⟩ := hl
  rw [l1, ob1_e]
  rcases l2 with rfl | ⟨v, rfl, hv⟩
  · rw [el1_L]; exact ok_some (Or.inl (Int.le_refl _))
  · rw [el1_R]
    by_cases q : v = 1000000
    · rw [if_pos q, ob1_e]; exact ok_some (Or.inl (Int.le_refl _))
    · rw [if_neg q, ob1_e]
      refine ok_some (Or.inr ?_)
      rcases hv with hv | hv
      · exact absurd hv q
      · exact hv
theorem c_nextJ (hI : SI τ) (hj : j < Jn τ) (hS : LSp τ σ j) (hT : (σ 1 0).toInt ≤ 1000000) (hF : 5000 ≤ F) : ok (mX2_nextEventTimeOf F τ σ (nI j)) (fun r => r.toInt ≤ (σ 1 0).toInt ∨ idlJ τ σ j r.toInt) := by
  unfold mX2_nextEventTimeOf
  rw [r8 hI hj, ob1_e]
  by_cases h0 : σ 5 j = 0
  · rw [if_pos h0, r8 hI hj, ob1_e]
    exact ok_some (Or.inr ⟨fun _ => Int.le_refl _, fun q => absurd (h0.symm.trans q) (by decide), fun q => absurd (h0.symm.trans q) (by decide)⟩)
  · rw [if_neg h0]
    by_cases h1 : σ 5 j = 1
    · rw [if_pos h1]
      obtain ⟨r, e1, e2⟩ := c_nextF (F := F) hI hj hS hT hF
      rw [e1, ob1_e]
      refine ok_some ?_
      rcases e2 with e2 | e2
      · exact Or.inl e2
      · exact Or.inr ⟨fun q => absurd q h0, fun _ => e2, fun q => absurd (h1.symm.trans q) (by decide)⟩
    · rw [if_neg h1]
      by_cases h2 : σ 5 j = 2
      · rw [if_pos h2]; exact ok_some (Or.inl (Int.le_refl _))
      · rw [if_neg h2]; exact ok_some (Or.inr ⟨fun q => absurd q h0, fun q => absurd q h1, h2⟩)
theorem c_next (hI : SI τ) (hW : WI B T τ σ) (hT : T ≤ 1000000) (hF : 5000 ≤ F) : ok (mX2_nextEventTime F τ σ) (fun r => (σ 1 0).toInt ≤ r.toInt ∧ ((σ 1 0).toInt < r.toInt → Idl τ σ r.toInt)) := by
  have hJ := hI.J
  have ht := hW.2.2.1
  have hl := loop_relX (f := fun st : Int32 × Int32 => mX2_nextEventTime_L5 F τ σ st.1 st.2) (fun k v => ∀ j, j < k → v.toInt ≤ (σ 1 0).toInt ∨ idlJ τ σ j v.toInt) (Q := fun v => ∀ j, j < Jn τ → v.toInt ≤ (σ 1 0).toInt ∨ idlJ τ σ j v.toInt) (Jn τ) (fun k v hk hR => by
    show ok (mX2_nextEventTime_L5 F τ σ (nI k) v) _
    unfold mX2_nextEventTime_L5
    obtain ⟨r, e1, e2⟩ := c_nextJ (F := F) hI hk (hW.2.1 k hk).1 (by have := ht.2; omega) hF
    rw [hJ.1, if_neg (nle (by omega) (by omega) hk), e1, ob1_e, nI_s]
    refine ok_some (Or.inr ⟨_, rfl, fun j hj => ?_⟩)
    by_cases q : r < v
    · rw [if_pos q]
      by_cases qj : j = k
      · subst qj; exact e2
      · rw [ltI] at q
        rcases hR j (by omega) with h | h
        · exact Or.inl (by omega)
        · exact Or.inr (h.le (by omega))
    · rw [if_neg q]
      by_cases qj : j = k
      · subst qj
        rw [ltI] at q
        rcases e2 with h | h
        · exact Or.inl (by omega)
        · exact Or.inr (h.le (by omega))
      · exact hR j (by omega)) (fun v hR => by
    show ok (mX2_nextEventTime_L5 F τ σ (nI (Jn τ)) v) _
    unfold mX2_nextEventTime_L5
    rw [hJ.1, if_pos (Int32.le_refl _)]
    exact ok_some ⟨v, rfl, hR⟩) (Jn τ) 0 F 1000000 (by omega) (by omega) (fun j hj => absurd hj (by omega))
  obtain ⟨v, l1, l2⟩ := hl
  unfold mX2_nextEventTime
  rw [i0, l1, ob1_e]
  by_cases q : σ 1 0 < v
  · rw [if_pos q]
    rw [ltI] at q
    refine ok_some ⟨by omega, fun _ j hj => ?_⟩
    rcases l2 j hj with h | h
    · omega
    · exact h
  · rw [if_neg q]
    exact ok_some ⟨Int.le_refl _, fun h => absurd h (by omega)⟩
end ID

