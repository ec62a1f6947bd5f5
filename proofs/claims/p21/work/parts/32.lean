/-! pure: what a tick keeps -/
def Loc (τ : MS) (j : Nat) (σ σ' : MS) : Prop := ∀ c i, (c = 1 ∨ (5 ≤ c ∧ c ≤ 8 ∧ i ≠ j) ∨ (9 ≤ c ∧ ¬ (An τ j ≤ i ∧ i < En τ j))) → σ' c i = σ c i
theorem Loc.refl (τ : MS) (j : Nat) (σ : MS) : Loc τ j σ σ := fun _ _ _ => rfl
theorem Loc.trans {τ : MS} {j : Nat} {a b c : MS} (h1 : Loc τ j a b) (h2 : Loc τ j b c) : Loc τ j a c := fun q i h => (h2 q i h).trans (h1 q i h)
theorem Loc.up {τ σ : MS} {j c i : Nat} {v : Int32} (h : c = 3 ∨ c = 4 ∨ (5 ≤ c ∧ c ≤ 8 ∧ i = j) ∨ (9 ≤ c ∧ An τ j ≤ i ∧ i < En τ j)) : Loc τ j σ (u2 σ c i v) := fun q x hq => u2_n _ _ _ _ _ _ (by omega)
theorem Loc.p2 {τ σ : MS} {j : Nat} {v : Int32} : Loc τ j σ (pf σ 2 v) := fun q x hq => pf_n _ _ _ _ _ (by omega)
theorem LV.up {τ σ : MS} {B : Int} {c i : Nat} {v : Int32} (h : LV B τ σ) (hc : c ≠ 3) : LV B τ (u2 σ c i v) := fun k hk => by rw [u2_n _ _ _ _ _ _ (by omega)]; exact h k hk
theorem LV.p2 {τ σ : MS} {B : Int} {v : Int32} (h : LV B τ σ) : LV B τ (pf σ 2 v) := fun k hk => by rw [pf_n _ _ _ _ _ (by decide)]; exact h k hk
theorem LV.wide {τ σ : MS} {B B' : Int} (h : LV B τ σ) (hB : B ≤ B') : LV B' τ σ := fun k hk => (h k hk).wide (Int.le_refl _) hB
theorem LSp.loc {τ σ σ' : MS} {i j : Nat} (hI : SI τ) (hi : i < Jn τ) (hj : j < Jn τ) (hij : i ≠ j) (hL : Loc τ j σ σ') (h : LSp τ σ i) : LSp τ σ' i := fun s h1 h2 => by
  have hn : ¬ (An τ j ≤ s ∧ s < En τ j) := fun q => hij (hI.dis hi hj h1 h2 q.1 q.2)
  rw [hL 10 s (Or.inr (Or.inr ⟨by decide, hn⟩)), hL 9 s (Or.inr (Or.inr ⟨by decide, hn⟩)), hL 12 s (Or.inr (Or.inr ⟨by decide, hn⟩)), hL 1 0 (Or.inl rfl)]
  exact h s h1 h2
theorem LJ.loc {τ σ σ' : MS} {i j : Nat} (hI : SI τ) (hi : i < Jn τ) (hj : j < Jn τ) (hij : i ≠ j) (hL : Loc τ j σ σ') (h : LJ τ σ i) : LJ τ σ' i := by
  have e : ∀ c, 5 ≤ c → c ≤ 8 → σ' c i = σ c i := fun c h1 h2 => hL c i (Or.inr (Or.inl ⟨h1, h2, hij⟩))
  obtain ⟨a, b, c, d⟩ := h
  unfold LJ
  rw [e 5 (by decide) (by decide), e 6 (by decide) (by decide), e 8 (by decide) (by decide)]
  refine ⟨a, b, c, fun q => ?_⟩
  obtain ⟨s, h1, h2, h3⟩ := d q
  have hn : ¬ (An τ j ≤ s ∧ s < En τ j) := fun q => hij (hI.dis hi hj h1 h2 q.1 q.2)
  exact ⟨s, h1, h2, by rw [hL 9 s (Or.inr (Or.inr ⟨by decide, hn⟩))]; exact h3⟩
theorem WI.loc {τ σ σ' : MS} {B B' T : Int} {j : Nat} (hI : SI τ) (h : WI B T τ σ) (hj : j < Jn τ) (hL : Loc τ j σ σ') (hV : LV B' τ σ') (hS : LSp τ σ' j) (hJ : LJ τ σ' j) : WI B' T τ σ' := by
  refine ⟨hV, fun i hi => ?_, by rw [hL 1 0 (Or.inl rfl)]; exact h.2.2.1, fun i => by rw [hL 1 0 (Or.inl rfl), hL 1 i (Or.inl rfl)]; exact h.2.2.2 i⟩
  by_cases q : i = j
  · subst q; exact ⟨hS, hJ⟩
  · exact ⟨(h.2.1 i hi).1.loc hI hi hj q hL, (h.2.1 i hi).2.loc hI hi hj q hL⟩
/-- what the steps of journey j may do -/
def Inv (B : Int) (τ : MS) (j : Nat) (σ0 σ : MS) : Prop := Loc τ j σ0 σ ∧ LSp τ σ j ∧ LV B τ σ ∧ 0 ≤ (σ 1 0).toInt ∧ ∀ c, 5 ≤ c → c ≤ 8 → σ c j = σ0 c j
section IV
variable {τ σ σ0 : MS} {B : Int} {j s : Nat} {p v : Int32}
theorem Inv.start (hS : LSp τ σ j) (hV : LV B τ σ) (h0 : 0 ≤ (σ 1 0).toInt) : Inv B τ j σ σ := ⟨Loc.refl _ _ _, hS, hV, h0, fun _ _ _ => rfl⟩
/-- one cell of a step put anew, not the state 2 -/
theorem Inv.up {c : Nat} (h : Inv B τ j σ0 σ) (h1 : An τ j ≤ s) (h2 : s < En τ j) (hc : c = 11 ∨ c = 13 ∨ (c = 9 ∧ v ≠ 2)) : Inv B τ j σ0 (u2 σ c s v) := by
  obtain ⟨a, b, c1, d, e⟩ := h
  refine ⟨a.trans (Loc.up (by omega)), fun t t1 t2 => ?_, c1.up (by omega), by rw [u2_n _ _ _ _ _ _ (by omega)]; exact d, fun q q1 q2 => by rw [u2_n _ _ _ _ _ _ (by omega)]; exact e q q1 q2⟩
  obtain ⟨f, g⟩ := b t t1 t2
  rw [u2_n _ _ _ _ 10 t (by omega), u2_n _ _ _ _ 12 t (by omega), u2_n _ _ _ _ 1 0 (by omega)]
  refine ⟨f, fun q => ?_⟩
  rw [u2_at] at q
  split at q
  · next hq => rcases hc with rfl | rfl | ⟨rfl, hv⟩
               · omega
               · omega
               · exact absurd q hv
  · exact g q
theorem Inv.lack {k : Nat} (h : Inv B τ j σ0 σ) : Inv B τ j σ0 (u2 σ 4 k v) := by
  obtain ⟨a, b, c1, d, e⟩ := h
  refine ⟨a.trans (Loc.up (by omega)), fun t t1 t2 => ?_, c1.up (by omega), by rw [u2_n _ _ _ _ _ _ (by omega)]; exact d, fun q q1 q2 => by rw [u2_n _ _ _ _ _ _ (by omega)]; exact e q q1 q2⟩
  rw [u2_n _ _ _ _ 10 t (by omega), u2_n _ _ _ _ 12 t (by omega), u2_n _ _ _ _ 9 t (by omega), u2_n _ _ _ _ 1 0 (by omega)]
  exact b t t1 t2
theorem Inv.take (hI : SI τ) (hj : j < Jn τ) (hB : B ≤ 2147480000) (h : Inv B τ j σ0 σ) (h1 : An τ j ≤ s) (h2 : s < En τ j) : Inv B τ j σ0 (takeF τ s (Kn τ s) σ) := by
  have hK := hI.K (hI.sN hj h2)
  unfold takeF
  split
  · split
    · exact h.lack.up h1 h2 (Or.inr (Or.inr ⟨rfl, by decide⟩))
    · exact h.lack.up h1 h2 (Or.inl rfl)
  · next hl =>
    obtain ⟨a, b, c1, d, e⟩ := h
    have hv := c1 (Kn τ s) hK.2.1
    have ha := hK.2.2.1
    obtain ⟨v1, v2⟩ := hv
    obtain ⟨a1, a2⟩ := ha
    rw [ltI, sI (by omega) (by omega), show (0 : Int32).toInt = 0 from rfl] at hl
    refine ⟨a.trans ((Loc.up (by omega)).trans ((Loc.up (by omega)).trans (Loc.up (by omega)))), fun t t1 t2 => ?_, ?_, by rw [u2_n _ _ _ _ 1 0 (by omega), u2_n _ _ _ _ 1 0 (by omega), u2_n _ _ _ _ 1 0 (by omega)]; exact d, fun q q1 q2 => by rw [u2_n _ _ _ _ _ _ (by omega), u2_n _ _ _ _ _ _ (by omega), u2_n _ _ _ _ _ _ (by omega)]; exact e q q1 q2⟩
    · obtain ⟨f, g⟩ := b t t1 t2
      rw [u2_n _ _ _ _ 10 t (by omega), u2_n _ _ _ _ 10 t (by omega), u2_n _ _ _ _ 10 t (by omega), u2_n _ _ _ _ 9 t (by omega), u2_n _ _ _ _ 1 0 (by omega), u2_n _ _ _ _ 1 0 (by omega), u2_n _ _ _ _ 1 0 (by omega)]
      refine ⟨f, fun q => ?_⟩
      by_cases hts : t = s
      · subst hts; rw [u2_s]; exact ⟨d, Int.le_refl _⟩
      · rw [u2_n _ _ _ _ 9 t (by omega), u2_n _ _ _ _ 9 t (by omega)] at q
        rw [u2_n _ _ _ _ 12 t (by omega), u2_n _ _ _ _ 12 t (by omega), u2_n _ _ _ _ 12 t (by omega)]
        exact g q
    · refine LV.up (LV.up ?_ (by decide)) (by decide)
      intro k hk
      rw [u2_at]
      split
      · next q =>
        unfold bd
        rw [sI (by omega) (by omega)]; omega
      · exact c1 k hk
theorem Inv.step (hI : SI τ) (hj : j < Jn τ) (hB : B ≤ 2147480000) (h : Inv B τ j σ0 σ) (h1 : An τ j ≤ s) (h2 : s < En τ j) : Inv B τ j σ0 (stepF τ j s σ) := by
  unfold stepF
  split
  · split
    · exact h
    · exact h.up h1 h2 (Or.inr (Or.inr ⟨rfl, by decide⟩))
  · split
    · split
      · split
        · exact h.up h1 h2 (Or.inr (Or.inl rfl))
        · exact h.up h1 h2 (Or.inr (Or.inr ⟨rfl, by decide⟩))
      · exact h.take hI hj hB h1 h2
    · exact h
theorem Inv.mv (hI : SI τ) (hj : j < Jn τ) (hB : B ≤ 2147480000) (h : Inv B τ j σ0 σ) (h1 : An τ j ≤ s) (h2 : s < En τ j) : Inv B τ j σ0 (mvF τ j s σ) := by
  unfold mvF
  split
  · exact h.step hI hj hB h1 h2
  · exact h
theorem Inv.wd (h : Inv B τ j σ0 σ) (h1 : An τ j ≤ s) (h2 : s < En τ j) : Inv B τ j σ0 (wdF τ j s σ) := by
  unfold wdF
  split
  · exact h.up h1 h2 (Or.inr (Or.inr ⟨rfl, by decide⟩))
  · exact h
theorem Inv.rdy (h : Inv B τ j σ0 σ) (h1 : An τ j ≤ s) (h2 : s < En τ j) : Inv B τ j σ0 (rdyF τ j s σ) := by
  unfold rdyF
  split
  · exact (h.up h1 h2 (Or.inr (Or.inr ⟨rfl, by decide⟩))).up h1 h2 (Or.inr (Or.inl rfl))
  · exact h
theorem Inv.fo {g : Nat → MS → MS} (h : Inv B τ j σ0 σ) (hg : ∀ s x, An τ j ≤ s → s < En τ j → Inv B τ j σ0 x → Inv B τ j σ0 (g s x)) (n : Nat) (hn : n ≤ En τ j - An τ j) : Inv B τ j σ0 (fo g (An τ j) n σ) :=
  fo_ind (fun _ x => Inv B τ j σ0 x) h (fun s x h1 h2 hx => hg s x h1 (by omega) hx)
theorem LJ.three (h : σ 5 j = 3 ∨ σ 5 j = 4) : LJ τ σ j := by
  unfold LJ
  rcases h with h | h <;> rw [h] <;> refine ⟨⟨by decide, by decide⟩, fun q => absurd q (by decide), fun q => absurd q (by decide), fun q => absurd q (by decide)⟩
theorem rest_inv (hS : LSp τ σ j) (hV : LV B τ σ) : Loc τ j σ (restF j v σ) ∧ LSp τ (restF j v σ) j ∧ LV B τ (restF j v σ) ∧ restF j v σ 5 j = v ∧ ∀ s, restF j v σ 9 s = σ 9 s := by
  unfold restF
  refine ⟨(Loc.up (by omega)).trans (Loc.up (by omega)), fun t t1 t2 => ?_, (hV.up (by decide)).up (by decide), by rw [u2_n _ _ _ _ _ _ (by omega), u2_s], fun s => by rw [u2_n _ _ _ _ _ _ (by omega), u2_n _ _ _ _ _ _ (by omega)]⟩
  have := hS t t1 t2
  rw [u2_n _ _ _ _ 10 t (by omega), u2_n _ _ _ _ 10 t (by omega), u2_n _ _ _ _ 9 t (by omega), u2_n _ _ _ _ 9 t (by omega), u2_n _ _ _ _ 12 t (by omega), u2_n _ _ _ _ 12 t (by omega), u2_n _ _ _ _ 1 0 (by omega), u2_n _ _ _ _ 1 0 (by omega)]
  exact this
theorem ent_inv (hI : SI τ) (hj : j < Jn τ) (hS : LSp τ σ j) (hV : LV B τ σ) (h0 : 0 ≤ (σ 1 0).toInt) (h1 : σ 5 j = 1) {q : Nat} (hp : p = nI q) (hq : q < 100) : Loc τ j σ (entF τ j p σ) ∧ LSp τ (entF τ j p σ) j ∧ LV B τ (entF τ j p σ) ∧ LJ τ (entF τ j p σ) j := by
  unfold entF
  split
  · next hlt =>
    have hC := hI.C hj
    rw [hp, hC.1, nI_ltI (by omega) (by omega)] at hlt
    have hi : Inv B τ j (u2 σ 6 j p) (u2 σ 6 j p) := Inv.start (fun t t1 t2 => by
      have := hS t t1 t2
      rw [u2_n _ _ _ _ 10 t (by omega), u2_n _ _ _ _ 9 t (by omega), u2_n _ _ _ _ 12 t (by omega), u2_n _ _ _ _ 1 0 (by omega)]
      exact this) (hV.up (by decide)) (by rw [u2_n _ _ _ _ 1 0 (by omega)]; exact h0)
    have hf := hi.fo (g := rdyF τ j) (fun s x a b c => c.rdy a b) (En τ j - An τ j) (Nat.le_refl _)
    obtain ⟨a, b, c, d, e⟩ := hf
    refine ⟨(Loc.up (by omega)).trans a, b, c, ?_⟩
    unfold LJ
    rw [e 5 (by decide) (by decide), e 6 (by decide) (by decide), u2_s, u2_n _ _ _ _ _ _ (by omega), h1]
    exact ⟨⟨by decide, by decide⟩, fun _ => ⟨q, hp, hlt⟩, fun q => absurd q (by decide), fun q => absurd q (by decide)⟩
  · obtain ⟨a, b, c, d, -⟩ := rest_inv (v := 3) hS hV
    exact ⟨a, b, c, LJ.three (Or.inl d)⟩
theorem move_inv (hI : SI τ) (hj : j < Jn τ) (hB : B ≤ 2147480000) (hS : LSp τ σ j) (hJ : LJ τ σ j) (hV : LV B τ σ) (h0 : 0 ≤ (σ 1 0).toInt) (h1 : σ 5 j = 1) : Loc τ j σ (moveF τ j σ) ∧ LSp τ (moveF τ j σ) j ∧ LV B τ (moveF τ j σ) ∧ LJ τ (moveF τ j σ) j := by
  have hi := (Inv.start hS hV h0).fo (g := mvF τ j) (fun s x a b c => c.mv hI hj hB a b) (En τ j - An τ j) (Nat.le_refl _)
  have h2 : Inv B τ j σ (if stHas τ (mvsF τ j σ) j 4 then withF τ j (mvsF τ j σ) else mvsF τ j σ) := by
    split
    · exact Inv.fo (g := wdF τ j) hi (fun s x a b c => c.wd a b) (En τ j - An τ j) (Nat.le_refl _)
    · exact hi
  unfold moveF
  generalize (if stHas τ (mvsF τ j σ) j 4 then withF τ j (mvsF τ j σ) else mvsF τ j σ) = σ2 at h2
  generalize stHas τ (mvsF τ j σ) j 4 = f
  obtain ⟨a, b, c, d, e⟩ := h2
  have e5 : σ2 5 j = 1 := (e 5 (by decide) (by decide)).trans h1
  obtain ⟨p, p1, p2⟩ := hJ.2.1 h1
  have hC := hI.C hj
  unfold endF
  split
  · have e6 : σ2 6 j + 1 = nI (p + 1) := by rw [e 6 (by decide) (by decide), p1, nI_s]
    obtain ⟨a', b', c', d'⟩ := ent_inv hI hj b c d e5 e6 (by omega)
    exact ⟨a.trans a', b', c', d'⟩
  · split
    · refine ⟨a.trans ((Loc.up (by omega)).trans (Loc.up (by omega))), fun t t1 t2 => ?_, (c.up (by decide)).up (by decide), ?_⟩
      · have := b t t1 t2
        rw [u2_n _ _ _ _ 10 t (by omega), u2_n _ _ _ _ 10 t (by omega), u2_n _ _ _ _ 9 t (by omega), u2_n _ _ _ _ 9 t (by omega), u2_n _ _ _ _ 12 t (by omega), u2_n _ _ _ _ 12 t (by omega), u2_n _ _ _ _ 1 0 (by omega), u2_n _ _ _ _ 1 0 (by omega)]
        exact this
      · have hp := hI.P
        unfold LJ
        rw [u2_n _ _ _ _ 5 j (by omega), u2_s, u2_s]
        refine ⟨⟨by decide, by decide⟩, fun q => absurd q (by decide), fun _ => ⟨by decide, ?_⟩, fun q => absurd q (by decide)⟩
        have := hp.1
        show 0 < _
        omega
    · refine ⟨a, b, c, ?_⟩
      unfold LJ
      rw [e5, e 6 (by decide) (by decide)]
      exact ⟨⟨by decide, by decide⟩, fun _ => ⟨p, p1, p2⟩, fun q => absurd q (by decide), fun q => absurd q (by decide)⟩
/-- a step that is done is put away -/
theorem put_inv (hI : SI τ) (hj : j < Jn τ) (hB : B ≤ 2147480000) (hS : LSp τ σ j) (hV : LV B τ σ) (h1 : An τ j ≤ s) (h2 : s < En τ j) (hv : v ≠ 2) : Loc τ j σ (putF τ j s v σ) ∧ LSp τ (putF τ j s v σ) j ∧ LV (B + 999) τ (putF τ j s v σ) ∧ putF τ j s v σ 5 j = σ 5 j ∧ putF τ j s v σ 8 j = 0 := by
  have hK := hI.K (hI.sN hj h2)
  have key : ∀ σ1 : MS, Loc τ j σ σ1 → LSp τ σ1 j → LV (B + 999) τ σ1 → σ1 5 j = σ 5 j → Loc τ j σ (u2 (u2 σ1 9 s v) 8 j 0) ∧ LSp τ (u2 (u2 σ1 9 s v) 8 j 0) j ∧ LV (B + 999) τ (u2 (u2 σ1 9 s v) 8 j 0) ∧ u2 (u2 σ1 9 s v) 8 j 0 5 j = σ 5 j ∧ u2 (u2 σ1 9 s v) 8 j 0 8 j = 0 := fun σ1 a b c d => by
    refine ⟨a.trans ((Loc.up (by omega)).trans (Loc.up (by omega))), fun t t1 t2 => ?_, (c.up (by decide)).up (by decide), by rw [u2_n _ _ _ _ _ _ (by omega), u2_n _ _ _ _ _ _ (by omega)]; exact d, u2_s _ _ _ _⟩
    have := b t t1 t2
    rw [u2_n _ _ _ _ 10 t (by omega), u2_n _ _ _ _ 10 t (by omega), u2_n _ _ _ _ 9 t (by omega), u2_n _ _ _ _ 12 t (by omega), u2_n _ _ _ _ 12 t (by omega), u2_n _ _ _ _ 1 0 (by omega), u2_n _ _ _ _ 1 0 (by omega)]
    refine ⟨this.1, fun q => ?_⟩
    rw [u2_at] at q
    split at q
    · exact absurd q hv
    · exact this.2 q
  unfold putF
  split
  · refine key _ (Loc.up (by omega)) (fun t t1 t2 => ?_) ?_ (by rw [u2_n _ _ _ _ _ _ (by omega)])
    · have := hS t t1 t2
      rw [u2_n _ _ _ _ 10 t (by omega), u2_n _ _ _ _ 9 t (by omega), u2_n _ _ _ _ 12 t (by omega), u2_n _ _ _ _ 1 0 (by omega)]
      exact this
    · intro k hk
      rw [u2_at]
      split
      · next q =>
        obtain ⟨v1, v2⟩ := hV (Kn τ s) hK.2.1
        obtain ⟨a1, a2⟩ := hK.2.2.1
        unfold bd
        rw [aI (by omega) (by omega)]; omega
      · exact (hV k hk).wide (Int.le_refl _) (by omega)
  · exact key _ (Loc.refl _ _ _) hS (hV.wide (by omega)) rfl
theorem uf_inv (hI : SI τ) (hj : j < Jn τ) (hS : LSp τ σ j) (hV : LV B τ σ) (h1 : An τ j ≤ s) (h2 : s < En τ j) (h4 : ¬ σ 10 s ≤ 0) : Loc τ j σ (ufF j s σ) ∧ LSp τ (ufF j s σ) j ∧ LV B τ (ufF j s σ) ∧ ufF j s σ 5 j = σ 5 j ∧ ufF j s σ 8 j = σ 8 j + 1 ∧ ∀ t, ufF j s σ 9 t = σ 9 t := by
  unfold ufF
  refine ⟨(Loc.up (by omega)).trans (Loc.p2.trans (Loc.up (by omega))), fun t t1 t2 => ?_, ((hV.up (by decide)).p2).up (by decide), ?_, u2_s _ _ _ _, fun t => ?_⟩
  · have hb := hS t t1 t2
    have ht := hS s h1 h2
    rw [u2_n _ _ _ _ 10 t (by omega), pf_n _ _ _ 10 t (by decide), u2_n _ _ _ _ 9 t (by omega), pf_n _ _ _ 9 t (by decide), u2_n _ _ _ _ 9 t (by omega), u2_n _ _ _ _ 12 t (by omega), pf_n _ _ _ 12 t (by decide), u2_n _ _ _ _ 12 t (by omega), u2_n _ _ _ _ 1 0 (by omega), pf_n _ _ _ 1 0 (by decide), u2_n _ _ _ _ 1 0 (by omega)]
    refine ⟨?_, hb.2⟩
    rw [u2_at]
    split
    · obtain ⟨b1, b2⟩ := ht.1
      rw [leI, show (0 : Int32).toInt = 0 from rfl] at h4
      have e1 : (1 : Int32).toInt = 1 := rfl
      unfold bd
      rw [sI (by omega) (by omega)]
      omega
    · exact hb.1
  · rw [u2_n _ _ _ _ _ _ (by omega), pf_n _ _ _ _ _ (by decide), u2_n _ _ _ _ _ _ (by omega)]
  · rw [u2_n _ _ _ _ _ _ (by omega), pf_n _ _ _ _ _ (by decide), u2_n _ _ _ _ _ _ (by omega)]
theorem undo_inv (hI : SI τ) (hj : j < Jn τ) (hB : B ≤ 2147480000) (hS : LSp τ σ j) (hJ : LJ τ σ j) (hV : LV B τ σ) (h5 : σ 5 j = 2) : Loc τ j σ (undoF τ j σ) ∧ LSp τ (undoF τ j σ) j ∧ LV (B + 999) τ (undoF τ j σ) ∧ LJ τ (undoF τ j σ) j := by
  have hp := hI.P
  obtain ⟨p1, p2⟩ := hp
  obtain ⟨u1, u2'⟩ := hJ.2.2.1 h5
  unfold undoF
  split
  · obtain ⟨a, b, c, d, -⟩ := rest_inv (v := 4) hS hV
    exact ⟨a, b, c.wide (by omega), LJ.three (Or.inr d)⟩
  · next s hd =>
    obtain ⟨h1, h2, h3⟩ := lsd_in hd
    split
    · obtain ⟨a, b, c, d, e⟩ := put_inv (v := 5) hI hj hB hS hV h1 h2 (by decide)
      refine ⟨a, b, c, ?_⟩
      unfold LJ
      rw [d, e, h5]
      refine ⟨⟨by decide, by decide⟩, fun q => absurd q (by decide), fun _ => ⟨by decide, ?_⟩, fun q => absurd q (by decide)⟩
      show 0 < _
      omega
    · next h4 =>
      obtain ⟨a, b, c, d, e, f⟩ := uf_inv hI hj hS hV h1 h2 h4
      have e1 : (1 : Int32).toInt = 1 := rfl
      split
      · next h6 =>
        refine ⟨a, b, c.wide (by omega), ?_⟩
        rw [ltI, aI (by omega) (by omega)] at h6
        unfold LJ
        rw [d, e, h5, aI (by omega) (by omega)]
        refine ⟨⟨by decide, by decide⟩, fun q => absurd q (by decide), fun _ => ⟨by omega, by omega⟩, fun q => absurd q (by decide)⟩
      · obtain ⟨a', b', c', d', e'⟩ := rest_inv (v := 5) b c
        refine ⟨a.trans a', b', c'.wide (by omega), ?_⟩
        unfold LJ
        rw [d']
        exact ⟨⟨by decide, by decide⟩, fun q => absurd q (by decide), fun q => absurd q (by decide), fun _ => ⟨s, h1, h2, by rw [e', f]; exact h3⟩⟩
end IV

