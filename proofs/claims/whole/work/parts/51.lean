/-! pure: both readers at one token: signs, numbers, words -/
def SF (τ : MS) : Prop := (∃ a, τ 2 0 = nI a ∧ a ≤ 6) ∧ (∃ a, τ 5 0 = nI a ∧ a ≤ 8) ∧ ∃ a, τ 10 0 = nI a ∧ a ≤ 40
abbrev XT := MS → Int32 → Int32 → FS → Int32 → Prop
/-- both at one place -/
def At (T : FS) (L b : Nat) (ρ μ : MS) : Prop := ∃ p c, p ≤ L ∧ TK T L p ρ ∧ c ≤ L ∧ μ 4 0 = nI c ∧ sk T L c = p ∧ b ≤ p
def Cm (T : FS) (L : Nat) (ν τ ρ μ : MS) : Prop := (ρ 4 0 = nI L ∧ μ 3 0 = nI L ∧ μ 1 = T ∧ ∀ q, q ≠ 4 → q ≠ 5 → q ≠ 6 → q ≠ 9 → q ≠ 13 → q ≠ 14 → μ q = ν q) ∧ SF τ ∧ (∃ p, p ≤ L ∧ TK T L p ρ) ∧ ∃ c, c ≤ L ∧ μ 4 0 = nI c
def PR (T : FS) (L : Nat) (ν : MS) (X : XT) (b : Nat) (τ ρ μ : MS) : Prop := Cm T L ν τ ρ μ ∧ ρ 1 0 = μ 5 0 ∧ ρ 2 0 = μ 6 0 ∧ (μ 5 0 = 0 → At T L b ρ μ ∧ X τ (ρ 5 0) (ρ 6 0) (μ 9) (μ 14 0))
def byt (T : FS) (L i : Nat) : Int32 := if L ≤ i then -1 else T i
section PM
variable {T : FS} {L : Nat} {ν τ ρ μ : MS} {X Y : XT} {b : Nat} {F : Nat} {β : FS}
theorem PR.weak (h : PR T L ν X b τ ρ μ) {b' : Nat} (hb : b' ≤ b) : PR T L ν X b' τ ρ μ := ⟨h.1, h.2.1, h.2.2.1, fun q => by
  obtain ⟨⟨p, c, h1, h2, h3, h4, h5, h6⟩, hX⟩ := h.2.2.2 q
  exact ⟨⟨p, c, h1, h2, h3, h4, h5, by omega⟩, hX⟩⟩
theorem PR.imp (h : PR T L ν X b τ ρ μ) (hX : X τ (ρ 5 0) (ρ 6 0) (μ 9) (μ 14 0) → Y τ (ρ 5 0) (ρ 6 0) (μ 9) (μ 14 0)) : PR T L ν Y b τ ρ μ := ⟨h.1, h.2.1, h.2.2.1, fun q => ⟨(h.2.2.2 q).1, hX (h.2.2.2 q).2⟩⟩
theorem PR.bad (h : PR T L ν X b τ ρ μ) (hb : μ 5 0 ≠ 0) (Y : XT) (b' : Nat) : PR T L ν Y b' τ ρ μ := ⟨h.1, h.2.1, h.2.2.1, fun q => absurd q hb⟩
theorem m_good : mX4_isGood F μ = some (b01 (decide (μ 5 0 = 0))) := by
  unfold mX4_isGood
  by_cases q : μ 5 0 = 0 <;> simp [q, ob1, b01]
theorem m_goodT (h : μ 5 0 = 0) : mX4_isGood F μ = some 1 := by rw [m_good, h]; rfl
theorem m_goodF (h : μ 5 0 ≠ 0) : mX4_isGood F μ = some 0 := by rw [m_good, decide_eq_false h]; rfl
theorem m_byte (h3 : μ 3 0 = nI L) (hT : μ 1 = T) (hL : L ≤ 700) {i : Nat} (hi : i < 100000) : mX4_byteAt F μ (nI i) = some (byt T L i) := by
  unfold mX4_byteAt byt
  rw [h3]
  by_cases q : L ≤ i
  · rw [if_pos ((nI_leI (by omega) (by omega)).mpr q), if_pos q, ob1_e]
  · rw [if_neg (nle (by omega) (by omega) (by omega)), if_neg q, hT, rd_at (by omega) (by decide), ob1_e, ob1_e]
theorem byt_32 {i : Nat} : byt T L i = 32 ↔ isS T L i = true := by
  unfold byt isS
  by_cases q : L ≤ i
  · rw [if_pos q]; simp; omega
  · rw [if_neg q]; simp; omega
theorem m_nextB (hF : 5000 ≤ F) (h3 : μ 3 0 = nI L) (hT : μ 1 = T) (hL : L ≤ 700) {c : Nat} (hc : c ≤ L) (h4 : μ 4 0 = nI c) : ok (mX4_next F μ) (fun r => r.1 = byt T L (sk T L c) ∧ r.2 4 0 = nI (sk T L c) ∧ ∀ q, q ≠ 4 → r.2 q = μ q) := by
  have hsl := sk_le (T := T) hc
  unfold mX4_next
  obtain ⟨μ1, l1, l2, l3⟩ := ok_scan (f := fun st => mX4_next_L0 F st) (isS T L) (fun i μ' => μ' 4 0 = nI i ∧ i ≤ L ∧ ∀ q, q ≠ 4 → μ' q = μ q) (Q := fun μ' => μ' 4 0 = nI (sk T L c) ∧ ∀ q, q ≠ 4 → μ' q = μ q) (fun i μ' hR hP => by
    obtain ⟨r1, r2, r3⟩ := hR
    have hi := isS_lt hP
    show ok (mX4_next_L0 F μ') _
    unfold mX4_next_L0
    rw [r1, m_byte (T := T) (by rw [r3 3 (by decide)]; exact h3) (by rw [r3 1 (by decide)]; exact hT) hL (by omega), ob1_e, if_pos (byt_32.mpr hP), ob1_e]
    exact ok_some ⟨_, rfl, by rw [pf_at, if_pos rfl, nI_s], hi, fun q hq => by funext x; rw [pf_n _ _ _ _ _ hq, r3 q hq]⟩) 1000 c F μ (by omega) ⟨h4, hc, fun _ _ => rfl⟩ (sk_out hL c) (fun μ' hR => by
    obtain ⟨r1, r2, r3⟩ := hR
    have r1 : μ' 4 0 = nI (sk T L c) := r1
    show ok (mX4_next_L0 F μ') _
    unfold mX4_next_L0
    rw [r1, m_byte (T := T) (by rw [r3 3 (by decide)]; exact h3) (by rw [r3 1 (by decide)]; exact hT) hL (by omega), ob1_e, if_neg (fun q => by have := byt_32.mp q; rw [sk_out hL c] at this; cases this)]
    exact ok_some ⟨_, rfl, r1, r3⟩)
  rw [l1, ob1_e, l2, m_byte (T := T) (by rw [l3 3 (by decide)]; exact h3) (by rw [l3 1 (by decide)]; exact hT) hL (by omega), ob1_e]
  exact ok_some ⟨rfl, l2, l3⟩
/-- spaces passed by the reference alone -/
theorem PR.next (hF : 5000 ≤ F) (hL : L ≤ 700) (h : PR T L ν X b τ ρ μ) : ok (mX4_next F μ) (fun r => PR T L ν X b τ ρ r.2 ∧ r.2 5 = μ 5 ∧ (μ 5 0 = 0 → r.2 4 0 = ρ 8 0 ∧ ∃ p, p ≤ L ∧ TK T L p ρ ∧ r.1 = byt T L p ∧ b ≤ p ∧ isS T L p = false) ∧ r.2 9 = μ 9 ∧ r.2 14 = μ 14 ∧ r.2 13 = μ 13) := by
  obtain ⟨⟨⟨c1, c2, c3, c4⟩, hs, hp, c, hc, hc4⟩, h1, h2, h3⟩ := h
  obtain ⟨r, l1, l2, l3, l4⟩ := m_nextB (F := F) hF c2 c3 hL hc hc4
  rw [l1]
  have hsl := sk_le (T := T) hc
  have hcm : Cm T L ν τ ρ r.2 := ⟨⟨c1, by rw [l4 3 (by decide)]; exact c2, by rw [l4 1 (by decide)]; exact c3, fun q a b c d e f => by rw [l4 q a, c4 q a b c d e f]⟩, hs, hp, _, hsl, l3⟩
  refine ok_some ⟨⟨hcm, by rw [l4 5 (by decide)]; exact h1, by rw [l4 6 (by decide)]; exact h2, fun q => ?_⟩, l4 5 (by decide), fun q => ?_, l4 9 (by decide), l4 14 (by decide), l4 13 (by decide)⟩
  · rw [l4 5 (by decide)] at q
    obtain ⟨⟨p, c', p1, p2, p3, p4, p5, p6⟩, hX⟩ := h3 q
    have ecc : c' = c := (nI_i (by omega) (by omega)).mp (p4.symm.trans hc4)
    subst ecc
    refine ⟨⟨p, _, p1, p2, hsl, l3, ?_, p6⟩, by rw [l4 9 (by decide), l4 14 (by decide)]; exact hX⟩
    rw [sk_sk hL]; exact p5
  · obtain ⟨⟨p, c', p1, p2, p3, p4, p5, p6⟩, hX⟩ := h3 q
    have ecc : c' = c := (nI_i (by omega) (by omega)).mp (p4.symm.trans hc4)
    subst ecc
    rw [p5] at l2 l3
    exact ⟨by rw [l3, p2.1], p, p1, p2, l2, p6, by rw [← p5]; exact sk_out hL _⟩
theorem c_fail1 {e o : Int32} (h : ρ 1 0 = 0) (he : e ≠ 0) : ok (mX1_fail F β τ ρ e o) (fun ρ' => ρ' 1 0 = e ∧ ρ' 2 0 = o ∧ ∀ q, q ≠ 1 → q ≠ 2 → ρ' q = ρ q) := by
  unfold mX1_fail
  rw [if_pos h, ob1_e, ob1_e, ob1_e]
  exact ok_some ⟨by rw [pf_n _ _ _ _ _ (by decide), pf_at, if_pos rfl], by rw [pf_at, if_pos rfl], fun q a b => by funext x; rw [pf_n _ _ _ _ _ b, pf_n _ _ _ _ _ a]⟩
theorem c_fail0 {e o : Int32} (h : ρ 1 0 ≠ 0) : mX1_fail F β τ ρ e o = some ρ := by
  unfold mX1_fail
  rw [if_neg h]; rfl
theorem m_rep1 {e o : Int32} (h : μ 5 0 = 0) (he : e ≠ 0) : ok (mX4_report F μ e o) (fun μ' => μ' 5 0 = e ∧ μ' 6 0 = o ∧ ∀ q, q ≠ 5 → q ≠ 6 → μ' q = μ q) := by
  unfold mX4_report
  rw [if_pos h, ob1_e, ob1_e]
  exact ok_some ⟨by rw [pf_n _ _ _ _ _ (by decide), pf_at, if_pos rfl], by rw [pf_at, if_pos rfl], fun q a b => by funext x; rw [pf_n _ _ _ _ _ b, pf_n _ _ _ _ _ a]⟩
theorem m_rep0 {e o : Int32} (h : μ 5 0 ≠ 0) : mX4_report F μ e o = some μ := by
  unfold mX4_report
  rw [if_neg h]
theorem TK.same {p : Nat} {ρ' : MS} (h : TK T L p ρ) (hq : ∀ q, 7 ≤ q → ρ' q = ρ q) : TK T L p ρ' := by
  unfold TK
  rw [hq 7 (by decide), hq 8 (by decide), hq 9 (by decide), hq 10 (by decide)]
  exact h
/-- both note an error, at the same place -/
theorem Cm.fail (h : Cm T L ν τ ρ μ) (h1 : ρ 1 0 = μ 5 0) (h2 : ρ 2 0 = μ 6 0) {e o o' : Int32} (he : e ≠ 0) (ho : μ 5 0 = 0 → o = o') (Y : XT) (b' : Nat) : ∃ ρ' μ', mX1_fail F β τ ρ e o = some ρ' ∧ mX4_report F μ e o' = some μ' ∧ PR T L ν Y b' τ ρ' μ' ∧ μ' 5 0 ≠ 0 := by
  obtain ⟨⟨c1, c2, c3, c4⟩, hs, ⟨p, hp1, hp2⟩, c, hc, hc4⟩ := h
  by_cases hg : μ 5 0 = 0
  · obtain ⟨ρ', l1, l2, l3, l4⟩ := c_fail1 (F := F) (β := β) (τ := τ) (o := o) (h1.trans hg) he
    obtain ⟨μ', k1, k2, k3, k4⟩ := m_rep1 (F := F) (o := o') hg he
    refine ⟨ρ', μ', l1, k1, ⟨⟨⟨by rw [l4 4 (by decide) (by decide)]; exact c1, by rw [k4 3 (by decide) (by decide)]; exact c2, by rw [k4 1 (by decide) (by decide)]; exact c3, fun q a b c d e f => by rw [k4 q b c, c4 q a b c d e f]⟩, hs, ⟨p, hp1, hp2.same (fun q hq => l4 q (by omega) (by omega))⟩, c, hc, by rw [k4 4 (by decide) (by decide)]; exact hc4⟩, by rw [l2, k2], by rw [l3, k3, ho hg], fun q => absurd (k2.symm.trans q) he⟩, by rw [k2]; exact he⟩
  · refine ⟨ρ, μ, c_fail0 (fun q => hg (h1.symm.trans q)), m_rep0 hg, ⟨⟨⟨c1, c2, c3, c4⟩, hs, ⟨p, hp1, hp2⟩, c, hc, hc4⟩, h1, h2, fun q => absurd q hg⟩, hg⟩
theorem PR.fail (h : PR T L ν X b τ ρ μ) {e o o' : Int32} (he : e ≠ 0) (ho : μ 5 0 = 0 → o = o') (Y : XT) (b' : Nat) : ∃ ρ' μ', mX1_fail F β τ ρ e o = some ρ' ∧ mX4_report F μ e o' = some μ' ∧ PR T L ν Y b' τ ρ' μ' ∧ μ' 5 0 ≠ 0 := h.1.fail h.2.1 h.2.2.1 he ho Y b'
/-- the class's next token, the reference behind the old one -/
theorem PR.adv (hF : 5000 ≤ F) (hB : BT β T L) (hc1 : ρ 4 0 = nI L) {p : Nat} (hp : p ≤ L) (ht : TK T L p ρ) : ok (mX1_nextToken F β τ ρ) (fun ρ' => TK T L (sk T L (te T L p)) ρ' ∧ sk T L (te T L p) ≤ L ∧ ∀ q, q < 7 → ρ' q = ρ q) := by
  have hte := te_le (T := T) hB.1 hp
  obtain ⟨ρ', l1, l2, l3⟩ := c_nextT (F := F) (τ := τ) hF hB hc1 ht.2.2.1 hte
  rw [l1]
  exact ok_some ⟨l2, sk_le hte, l3⟩
theorem kd_byt {p : Nat} {c : Int32} (hc : isG c = true) : (kd T L p = 3 ∧ T p = c) ↔ byt T L p = c := by
  have hne : c ≠ -1 := fun q => by rw [q] at hc; exact absurd hc (by decide)
  unfold kd byt
  by_cases h : L ≤ p
  · rw [if_pos h, if_pos h]
    exact ⟨fun q => absurd q.1 (by decide), fun q => absurd q.symm hne⟩
  · rw [if_neg h, if_neg h]
    constructor
    · intro q; exact q.2
    · intro q
      have h3 : c = 59 ∨ c = 42 ∨ c = 58 := by
        unfold isG at hc
        simp at hc
        rcases hc with (hc | hc) | hc
        · exact Or.inl hc
        · exact Or.inr (Or.inl hc)
        · exact Or.inr (Or.inr hc)
      rw [q, hc]
      have e1 : isD c = false := by rcases h3 with r | r | r <;> rw [r] <;> decide
      have e2 : isA c = false := by rcases h3 with r | r | r <;> rw [r] <;> decide
      rw [e1, e2]
      exact ⟨rfl, rfl⟩
theorem PR.sign (hF : 5000 ≤ F) (hB : BT β T L) (h : PR T L ν X b τ ρ μ) {c : Int32} (hc : isG c = true) : ∃ ρ' μ', mX1_takeSign F β τ ρ c = some ρ' ∧ mX4_expect F μ c = some μ' ∧ PR T L ν X (b + 1) τ ρ' μ' := by
  have hL := hB.1
  have h0 := h
  obtain ⟨⟨⟨c1, c2, c3, c4⟩, hs, ⟨p0, hp1, hp2⟩, cc, hcc, hc4⟩, h1, h2, h3⟩ := h
  have hread : ∀ p, p ≤ L → TK T L p ρ → (if (ρ 7 0) = (3 : Int32) then ob1 (rd β 700 (ρ 8 0)) fun x4 => (if x4 = c then some false else some true) else some true) = some (!(decide (kd T L p = 3) && decide (T p = c))) := fun p hp ht => by
    rw [ht.2.1, ht.1]
    by_cases q : kd T L p = 3
    · have hpl := kd_lt (T := T) (L := L) (p := p) (by rw [q]; decide)
      have hcb : c.toInt < 128 ∧ 0 ≤ c.toInt := by
        unfold isG at hc
        simp at hc
        rcases hc with (hc | hc) | hc <;> rw [hc] <;> decide
      have := (hB.2 p hpl).eq hcb.2 hcb.1
      rw [if_pos q, rd_at (by omega) (by decide), ob1_e]
      by_cases q2 : T p = c
      · rw [if_pos (this.mpr q2)]; simp [q, q2]
      · rw [if_neg (fun q3 => q2 (this.mp q3))]; simp [q, q2]
    · rw [if_neg q]; simp [q]
  by_cases hg : μ 5 0 = 0
  · obtain ⟨⟨p, c', p1, p2, p3, p4, p5, p6⟩, hX⟩ := h3 hg
    obtain ⟨r, l1, l2, l3, l4⟩ := m_nextB (F := F) hF c2 c3 hL p3 p4
    rw [p5] at l2 l3
    unfold mX1_takeSign mX4_expect
    rw [hread p p1 p2, ob1_e, m_goodT hg, ob1_e, if_neg (by decide), l1]
    show ∃ ρ' μ', _ ∧ ob1 (if r.1 = c then _ else _) _ = some μ' ∧ _
    by_cases q : byt T L p = c
    · have hk := (kd_byt hc).mpr q
      obtain ⟨ρ', m1, m2, m3, m4⟩ := PR.adv (F := F) (τ := τ) hF hB c1 p1 p2
      have hte : te T L p = p + 1 := by unfold te; rw [if_pos (Or.inl hk.1)]
      have hpl := kd_lt (T := T) (L := L) (p := p) (by rw [hk.1]; decide)
      rw [if_pos (l2.trans q), ob1_e, ob1_e, show (!(decide (kd T L p = 3) && decide (T p = c))) = false by simp [hk.1, hk.2], cnd_F, m1, ob1_e]
      have hμ : ∀ q, q ≠ 4 → pf r.2 4 (r.2 4 0 + 1) q = μ q := fun q hq => by funext x; rw [pf_n _ _ _ _ _ hq, l4 q hq]
      have hμ4 : pf r.2 4 (r.2 4 0 + 1) 4 0 = nI (p + 1) := by rw [pf_at, if_pos rfl, l3, nI_s]
      rw [hte] at m2 m3
      refine ⟨ρ', _, rfl, rfl, ⟨⟨by rw [m4 4 (by decide)]; exact c1, by rw [hμ 3 (by decide)]; exact c2, by rw [hμ 1 (by decide)]; exact c3, fun q a b c d e f => by rw [hμ q a, c4 q a b c d e f]⟩, hs, ⟨_, m3, m2⟩, p + 1, by omega, hμ4⟩, by rw [m4 1 (by decide), hμ 5 (by decide)]; exact h1, by rw [m4 2 (by decide), hμ 6 (by decide)]; exact h2, fun _ => ⟨⟨_, p + 1, m3, m2, by omega, hμ4, rfl, ?_⟩, ?_⟩⟩
      · have := sk_ge (T := T) (L := L) (p + 1); omega
      · rw [m4 5 (by decide), m4 6 (by decide), hμ 9 (by decide), hμ 14 (by decide)]; exact hX
    · have hk : ¬ (kd T L p = 3 ∧ T p = c) := fun q2 => q ((kd_byt hc).mp q2)
      have hbool : (!(decide (kd T L p = 3) && decide (T p = c))) = true := by
        by_cases q1 : kd T L p = 3
        · have : ¬ T p = c := fun q2 => hk ⟨q1, q2⟩
          simp [this]
        · simp [q1]
      rw [if_neg (fun q2 => q (l2.symm.trans q2)), hbool, cnd_T]
      have hPR2 : PR T L ν X b τ ρ r.2 := ⟨⟨⟨c1, by rw [l4 3 (by decide)]; exact c2, by rw [l4 1 (by decide)]; exact c3, fun q a b c d e f => by rw [l4 q a, c4 q a b c d e f]⟩, hs, ⟨p0, hp1, hp2⟩, p, p1, l3⟩, by rw [l4 5 (by decide)]; exact h1, by rw [l4 6 (by decide)]; exact h2, fun _ => ⟨⟨p, p, p1, p2, p1, l3, by rw [← p5, sk_sk hL], p6⟩, by rw [l4 9 (by decide), l4 14 (by decide)]; exact hX⟩⟩
      obtain ⟨ρ', μ', f1, f2, f3, f4⟩ := hPR2.fail (F := F) (β := β) (e := -2) (o := ρ 8 0) (o' := r.2 4 0) (by decide) (fun _ => by rw [l3, p2.1]) X (b + 1)
      rw [f1, ob1_e, f2, ob1_e, ob1_e]
      exact ⟨ρ', μ', rfl, rfl, f3⟩
  · unfold mX1_takeSign mX4_expect
    rw [hread p0 hp1 hp2, ob1_e, m_goodF hg, ob1_e, if_pos rfl]
    have hρ : ρ 1 0 ≠ 0 := fun q => hg (h1.symm.trans q)
    cases (!(decide (kd T L p0 = 3) && decide (T p0 = c))) with
    | true => rw [cnd_T, c_fail0 hρ, ob1_e]; exact ⟨ρ, μ, rfl, rfl, h0.bad hg X _⟩
    | false =>
      obtain ⟨ρ', m1, m2, m3, m4⟩ := PR.adv (F := F) (τ := τ) hF hB c1 hp1 hp2
      rw [cnd_F, m1, ob1_e]
      exact ⟨ρ', μ, rfl, rfl, ⟨⟨by rw [m4 4 (by decide)]; exact c1, c2, c3, c4⟩, hs, ⟨_, m3, m2⟩, cc, hcc, hc4⟩, by rw [m4 1 (by decide)]; exact h1, by rw [m4 2 (by decide)]; exact h2, fun q => absurd q hg⟩
end PM
