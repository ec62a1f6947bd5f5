/-! pure: both read a step -/
section RS
variable {T : FS} {L : Nat} {ν τ ρ μ : MS} {X Y : XT} {b : Nat} {F : Nat} {β : FS}
theorem m_expF (hg : μ 5 0 ≠ 0) {c : Int32} : mX4_expect F μ c = some μ := by
  unfold mX4_expect
  rw [m_goodF hg, ob1_e, if_pos rfl]
theorem m_numF (hg : μ 5 0 ≠ 0) {lo hi : Int32} : mX4_number F μ lo hi = some (0, μ) := by
  unfold mX4_number
  rw [m_goodF hg, ob1_e, if_pos rfl]
theorem cb_sign (hF : 5000 ≤ F) (hB : BT β T L) (h : PR T L ν X b τ ρ μ) (hg : μ 5 0 ≠ 0) {c : Int32} (hc : isG c = true) : ∃ ρ', mX1_takeSign F β τ ρ c = some ρ' ∧ PR T L ν X b τ ρ' μ := by
  obtain ⟨ρ', μ', h1, h2, h3⟩ := h.sign (F := F) hF hB hc
  rw [m_expF hg] at h2
  cases h2
  exact ⟨ρ', h1, h3.bad hg _ _⟩
theorem cb_num (hF : 5000 ≤ F) (hB : BT β T L) (h : PR T L ν X b τ ρ μ) (hg : μ 5 0 ≠ 0) (lo hi : Int32) : ∃ r ρ', mX1_readNumber F β τ ρ lo hi = some (r, ρ') ∧ PR T L ν X b τ ρ' μ := by
  obtain ⟨r, ρ', r', μ', h1, h2, h3, h4⟩ := h.num (F := F) hF hB lo hi
  rw [m_numF hg] at h2
  cases h2
  exact ⟨r, ρ', h1, h3⟩
theorem gb_exp {c : Int32} {μ' : MS} (h : mX4_expect F μ c = some μ') (h2 : μ' 5 0 = 0) : μ 5 0 = 0 := by
  by_cases hg : μ 5 0 = 0
  · exact hg
  · rw [m_expF hg] at h; cases h; exact h2
theorem gb_num {lo hi r : Int32} {μ' : MS} (h : mX4_number F μ lo hi = some (r, μ')) (h2 : μ' 5 0 = 0) : μ 5 0 = 0 := by
  by_cases hg : μ 5 0 = 0
  · exact hg
  · rw [m_numF hg] at h; cases h; exact h2
/-- a word and its number, if it is there -/
theorem PR.opt (hF : 5000 ≤ F) (hB : BT β T L) (h : PR T L ν X b τ ρ μ) {w : Nat} (hw : w < 9) : ∃ v ρ' v' μ', (∀ {γ : Type} (K : Int32 → MS → Option γ), ob2 (mX1_skipsWord F β τ ρ w) (fun r12 ρ13 => ob2 (if r12 = 0 then some ((0 : Int32), ρ13) else ob2 (mX1_readNumber F β τ ρ13 (0 : Int32) (9 : Int32)) fun r20 ρ21 => some (r20, ρ21)) K) = K v ρ') ∧ (∀ {γ : Type} (K : Int32 → MS → Option γ), ob2 (mX4_takeWord F μ (w + 9)) (fun r21 μ22 => ob2 (if r21 = 0 then some ((0 : Int32), μ22) else ob2 (mX4_number F μ22 (0 : Int32) (9 : Int32)) fun r29 μ30 => some (r29, μ30)) K) = K v' μ') ∧ PR T L ν X b τ ρ' μ' ∧ (μ' 5 0 = 0 → v = v' ∧ bd v 0 9 ∧ μ 5 0 = 0) := by
  obtain ⟨r, ρ1, r', μ1, h1, h2, h3, h4, h5, h6⟩ := h.skips (F := F) hF hB hw
  by_cases hg : μ 5 0 = 0
  · obtain ⟨rfl, -⟩ := h5 hg
    by_cases hr : r = 0
    · refine ⟨0, ρ1, 0, μ1, fun K => ?_, fun K => ?_, h3, fun _ => ⟨rfl, ⟨by decide, by decide⟩, hg⟩⟩
      · rw [h1, ob2_e, if_pos hr, ob2_e]
      · rw [h2, ob2_e, if_pos hr, ob2_e]
    · obtain ⟨v, ρ2, v', μ2, k1, k2, k3, k4⟩ := h3.num (F := F) hF hB 0 9
      refine ⟨v, ρ2, v', μ2, fun K => ?_, fun K => ?_, k3, fun q => ?_⟩
      · rw [h1, ob2_e, if_neg hr, k1, ob2_e, ob2_e]
      · rw [h2, ob2_e, if_neg hr, k2, ob2_e, ob2_e]
      · obtain ⟨a, b1, b2, -⟩ := k4 q
        rw [ltI, show (0 : Int32).toInt = 0 from rfl] at b1
        rw [ltI, show (9 : Int32).toInt = 9 from rfl] at b2
        exact ⟨a, ⟨by omega, by omega⟩, hg⟩
  · have hr' := h6 hg
    subst hr'
    have hg1 : μ1 5 0 ≠ 0 := by rw [h4]; exact hg
    by_cases hr : r = 0
    · refine ⟨0, ρ1, 0, μ1, fun K => ?_, fun K => ?_, h3, fun q => absurd q hg1⟩
      · rw [h1, ob2_e, if_pos hr, ob2_e]
      · rw [h2, ob2_e, if_pos rfl, ob2_e]
    · obtain ⟨v, ρ2, k1, k2⟩ := cb_num (F := F) hF hB h3 hg1 0 9
      refine ⟨v, ρ2, 0, μ1, fun K => ?_, fun K => ?_, k2, fun q => absurd q hg1⟩
      · rw [h1, ob2_e, if_neg hr, k1, ob2_e, ob2_e]
      · rw [h2, ob2_e, if_pos rfl, ob2_e]
theorem m_stepF (hg : μ 5 0 ≠ 0) {i1 i2 : Int32} : mX4_readStep F μ i1 i2 = some μ := by
  have hr : rd (μ 9) 451 1 = some (μ 9 1) := rG1
  unfold mX4_readStep
  simp only [hr, ob1_e, m_numF hg, ob2_e, m_goodF hg, if_true, cnd_F, m_expF hg, m_wordF hg]
/-- what the class makes of a step once there is an error -/
theorem SF.add (h : SF τ) {N a : Nat} (h10 : τ 10 0 = nI N) (hN : N < 40) (h5 : τ 5 0 = nI a) (ha : a ≤ 8) {i1 i2 i3 i4 i5 i6 : Int32} : SF (adF τ N a i1 i2 i3 i4 i5 i6) := by
  have e2 : adF τ N a i1 i2 i3 i4 i5 i6 2 0 = τ 2 0 := by unfold adF; simp [u2_at, pf_at]
  have e5 : adF τ N a i1 i2 i3 i4 i5 i6 5 0 = τ 5 0 := by unfold adF; simp [u2_at, pf_at]
  have e10 : adF τ N a i1 i2 i3 i4 i5 i6 10 0 = nI (N + 1) := by unfold adF; simp [u2_at, pf_at]
  unfold SF
  rw [e2, e5, e10]
  exact ⟨h.1, h.2.1, N + 1, rfl, by omega⟩
theorem PR.tau (h : PR T L ν X b τ ρ μ) {τ' : MS} (hs : SF τ') (hX : μ 5 0 = 0 → X τ (ρ 5 0) (ρ 6 0) (μ 9) (μ 14 0) → Y τ' (ρ 5 0) (ρ 6 0) (μ 9) (μ 14 0)) : PR T L ν Y b τ' ρ μ := by
  obtain ⟨⟨c, -, d, e⟩, h1, h2, h3⟩ := h
  exact ⟨⟨c, hs, d, e⟩, h1, h2, fun q => ⟨(h3 q).1, hX q (h3 q).2⟩⟩
theorem PR.row (h : PR T L ν X b τ ρ μ) {τ' μ' : MS} (hs : SF τ') (hq : ∀ q, q ≠ 9 → μ' q = μ q) (hX : μ 5 0 = 0 → X τ (ρ 5 0) (ρ 6 0) (μ 9) (μ 14 0) → Y τ' (ρ 5 0) (ρ 6 0) (μ' 9) (μ 14 0)) : PR T L ν Y b τ' ρ μ' := by
  obtain ⟨⟨⟨c1, c2, c3, c4⟩, -, d, e⟩, h1, h2, h3⟩ := h
  refine ⟨⟨⟨c1, by rw [hq 3 (by decide)]; exact c2, by rw [hq 1 (by decide)]; exact c3, fun q a b c d e f => by rw [hq q d, c4 q a b c d e f]⟩, hs, d, by rw [hq 4 (by decide)]; exact e⟩, by rw [hq 5 (by decide)]; exact h1, by rw [hq 6 (by decide)]; exact h2, fun q => ?_⟩
  rw [hq 5 (by decide)] at q
  obtain ⟨⟨p, c, p1, p2, p3, p4, p5, p6⟩, hx⟩ := h3 q
  exact ⟨⟨p, c, p1, p2, p3, by rw [hq 4 (by decide)]; exact p4, p5, p6⟩, by rw [hq 14 (by decide)]; exact hX q hx⟩
theorem cb_step (hF : 5000 ≤ F) (hB : BT β T L) (h : PR T L ν X b τ ρ μ) (hg : μ 5 0 ≠ 0) (i1 : Int32) : ∃ τ' ρ', mX1_readStep F β τ ρ i1 = some (τ', ρ') ∧ PR T L ν Y b τ' ρ' μ := by
  obtain ⟨r1, ρ2, a1, a2⟩ := cb_num (F := F) hF hB h hg 0 (τ 2 0 - 1)
  have hs := h.1.2.1
  obtain ⟨⟨S, -, -⟩, ⟨a, ha, ha8⟩, ⟨N, hN, hN40⟩⟩ := id hs
  have hρ : ρ2 1 0 ≠ 0 := fun q => hg (a2.2.1.symm.trans q)
  unfold mX1_readStep
  rw [a1, ob2_e, c_room hN hN40, ob1_e]
  by_cases q : N < 40
  · rw [show decide (N < 40) = true from decide_eq_true q, if_neg (show ¬ b01 true = 0 by decide)]
    obtain ⟨ρ6, b1, b2⟩ := cb_sign (F := F) hF hB a2 hg (c := 42) rfl
    rw [b1, ob1_e]
    obtain ⟨r7, ρ8, c1, c2⟩ := cb_num (F := F) hF hB b2 hg 1 999
    rw [c1, ob2_e]
    obtain ⟨ρ9, d1, d2⟩ := cb_sign (F := F) hF hB c2 hg (c := 58) rfl
    rw [d1, ob1_e]
    obtain ⟨r10, ρ11, e1, e2⟩ := cb_num (F := F) hF hB d2 hg 1 99
    rw [e1, ob2_e]
    obtain ⟨v15, ρ16, v15', μ1, f1, f2, f3, f4⟩ := e2.opt (F := F) hF hB (w := 7) (by decide)
    rw [f1]
    have hμ1 : μ1 = μ := by
      have := f2 (γ := Int32 × MS) (fun a b => some (a, b))
      rw [m_wordF hg, ob2_e, if_pos rfl, ob2_e] at this
      exact (Prod.mk.inj (Option.some.inj this)).2.symm
    subst hμ1
    obtain ⟨v25, ρ26, v25', μ2, g1, g2, g3, g4⟩ := f3.opt (F := F) hF hB (w := 8) (by decide)
    rw [g1, c_addStep hN q ha ha8, ob1_e]
    have hμ2 : μ2 = μ1 := by
      have := g2 (γ := Int32 × MS) (fun a b => some (a, b))
      rw [m_wordF hg, ob2_e, if_pos rfl, ob2_e] at this
      exact (Prod.mk.inj (Option.some.inj this)).2.symm
    subst hμ2
    refine ⟨_, ρ26, rfl, g3.tau ?_ (fun q => absurd q hg)⟩
    split
    · exact hs
    · exact hs.add hN q ha ha8
  · rw [show decide (N < 40) = false from decide_eq_false q, if_pos (show b01 false = 0 from rfl), c_fail0 hρ, ob1_e]
    exact ⟨τ, ρ2, rfl, a2.bad hg _ _⟩
/-- a step more, on both sides -/
theorem X1.add {J g g' N : Nat} {f5 f6 o : Int32} {d : FS} {i2 i3 i4 i5 i6 : Int32} {k : Nat} (h : X1 J g τ f5 f6 d o) (hN : Nn τ = N) (hN40 : N < 40) (hg : g ≤ g') (hg4 : g' ≤ 4) (h2 : i2 = nI k) (hk : k < Sn τ) (h3 : bd i3 1 999) (h4 : bd i4 1 99) (h5 : bd i5 0 9) {d' : FS}
    (hd : ∀ x, ¬ (91 + 9 * N ≤ x ∧ x < 100 + 9 * N) → x ≠ 3 → x ≠ 22 + 9 * J → d' x = d x) (e0 : d' (91 + 9 * N) = nI g') (e1 : d' (92 + 9 * N) = i2) (e2 : d' (93 + 9 * N) = i3) (e3 : d' (94 + 9 * N) = i4) (e4 : d' (95 + 9 * N) = 0) (e5 : d' (96 + 9 * N) = i5) (e6 : d' (97 + 9 * N) = i6) (e7 : d' (98 + 9 * N) = i6) (e8 : d' 3 = nI (N + 1)) (e9 : d' (22 + 9 * J) = d (22 + 9 * J) + 1) : X1 J g' (adF τ N (J + 1) (nI g') i2 i3 i4 i5 i6) f5 f6 d' o ∧ Nn (adF τ N (J + 1) (nI g') i2 i3 i4 i5 i6) = N + 1 ∧ An (adF τ N (J + 1) (nI g') i2 i3 i4 i5 i6) J < N + 1 ∧ An (adF τ N (J + 1) (nI g') i2 i3 i4 i5 i6) J = An τ J := by
  obtain ⟨⟨b1, b2, b3, b4, b5, b6, b7, b8, b9, b10, b11⟩, x1, x2, x3, x4, x5, x6, x7, x8, x9, x10, x11, x12, x13, x14, x15, x16, x17, x18, x19, x20⟩ := h
  have hn : ∀ c x, ¬ (11 ≤ c ∧ c ≤ 16 ∧ x = N) → c ≠ 10 → ¬ (c = 9 ∧ x = J) → ¬ (c = 7 ∧ x = J) → adF τ N (J + 1) (nI g') i2 i3 i4 i5 i6 c x = τ c x := fun c x q1 q2 q3 q4 => by
    unfold adF
    rw [u2_n _ _ _ _ _ _ (by omega), u2_n _ _ _ _ _ _ (by omega), pf_n _ _ _ _ _ q2, u2_n _ _ _ _ _ _ (by omega), u2_n _ _ _ _ _ _ (by omega), u2_n _ _ _ _ _ _ (by omega), u2_n _ _ _ _ _ _ (by omega), u2_n _ _ _ _ _ _ (by omega), u2_n _ _ _ _ _ _ (by omega)]
  have n10 : adF τ N (J + 1) (nI g') i2 i3 i4 i5 i6 10 0 = nI (N + 1) := by unfold adF; simp [u2_at, pf_at]
  have n9 : adF τ N (J + 1) (nI g') i2 i3 i4 i5 i6 9 J = nI (N + 1) := by unfold adF; simp [u2_at, pf_at]
  have n7 : adF τ N (J + 1) (nI g') i2 i3 i4 i5 i6 7 J = nI g' + 1 := by unfold adF; simp [u2_at, pf_at]
  have n11 : adF τ N (J + 1) (nI g') i2 i3 i4 i5 i6 11 N = nI g' := by unfold adF; simp [u2_at, pf_at]
  have n12 : adF τ N (J + 1) (nI g') i2 i3 i4 i5 i6 12 N = i2 := by unfold adF; simp [u2_at, pf_at]
  have n13 : adF τ N (J + 1) (nI g') i2 i3 i4 i5 i6 13 N = i3 := by unfold adF; simp [u2_at, pf_at]
  have n14 : adF τ N (J + 1) (nI g') i2 i3 i4 i5 i6 14 N = i4 := by unfold adF; simp [u2_at, pf_at]
  have n15 : adF τ N (J + 1) (nI g') i2 i3 i4 i5 i6 15 N = i5 := by unfold adF; simp [u2_at, pf_at]
  have n16 : adF τ N (J + 1) (nI g') i2 i3 i4 i5 i6 16 N = i6 := by unfold adF; simp [u2_at, pf_at]
  generalize adF τ N (J + 1) (nI g') i2 i3 i4 i5 i6 = τ' at hn n10 n9 n7 n11 n12 n13 n14 n15 n16 ⊢
  have hNn : Nn τ' = N + 1 := by unfold Nn; rw [n10, nv_nI (by omega)]
  have hSn : Sn τ' = Sn τ := by unfold Sn; rw [hn 2 0 (by omega) (by decide) (by omega) (by omega)]
  have hAJ : An τ' J = An τ J := by unfold An; rw [hn 8 J (by omega) (by decide) (by omega) (by omega)]
  have hG : ∀ s, s < N → Gn τ' s = Gn τ s := fun s hs => by unfold Gn; rw [hn 11 s (by omega) (by decide) (by omega) (by omega)]
  have hGN : Gn τ' N = g' := by unfold Gn; rw [n11, nv_nI (by omega)]
  have hKN : Kn τ' N = k := by unfold Kn; rw [n12, h2, nv_nI (by have := b1.2; omega)]
  refine ⟨⟨⟨?_, ⟨by rw [hNn]; exact n10, by rw [hNn]; omega⟩, ?_, ?_, ?_, by rw [e8, n10], ?_, ?_, ?_, ?_, ?_⟩, x1, x2, ?_, ?_, ?_, ?_, ?_, ?_, ?_, ?_, ?_, ?_, ?_, ?_, ?_, ?_, hg4, ?_, ?_, ?_⟩, hNn, by rw [hAJ]; omega, hAJ⟩
  · rw [hSn, hn 2 0 (by omega) (by decide) (by omega) (by omega)]; exact b1
  · rw [hd 0 (by omega) (by omega) (by omega)]; exact b3
  · rw [hd 6 (by omega) (by omega) (by omega)]; exact b4
  · rw [hd 1 (by omega) (by omega) (by omega), hn 2 0 (by omega) (by decide) (by omega) (by omega)]; exact b5
  · rw [hd 4 (by omega) (by omega) (by omega), hn 0 0 (by omega) (by decide) (by omega) (by omega)]; exact b7
  · rw [hd 5 (by omega) (by omega) (by omega), hn 1 0 (by omega) (by decide) (by omega) (by omega)]; exact b8
  · rw [hn 1 0 (by omega) (by decide) (by omega) (by omega)]; exact b9
  · intro k9 hk9
    rw [hSn] at hk9
    have := b1.2
    exact (b10 k9 hk9).same (hn 3 k9 (by omega) (by decide) (by omega) (by omega)) (hn 4 k9 (by omega) (by decide) (by omega) (by omega)) (fun x a b => hd x (by omega) (by omega) (by omega))
  · intro s hs
    rw [hNn] at hs
    by_cases q : s = N
    · subst q
      refine ⟨⟨by rw [e0, n11], by rw [e1, n12], by rw [e2, n13], by rw [e3, n14], e4, by rw [e5, n15], by rw [e6, n16], by rw [e7, n16]⟩, ?_⟩
      unfold stOK
      rw [hKN, hSn, n12, n13, n14, n15]
      exact ⟨h2, hk, h3, h4, h5⟩
    · obtain ⟨p1, p2⟩ := b11 s (by omega)
      exact ⟨p1.same (fun c c1 c2 => hn c s (by omega) (by omega) (by omega) (by omega)) (fun x a b => hd x (by omega) (by omega) (by omega)), p2.same (fun c c1 c2 => hn c s (by omega) (by omega) (by omega) (by omega)) (by rw [hSn]; exact Nat.le_refl _)⟩
  · rw [hn 5 0 (by omega) (by decide) (by omega) (by omega)]; exact x3
  · rw [hd 2 (by omega) (by omega) (by omega)]; exact x4
  · exact x5.same (fun c j hj c1 c2 => hn c j (by omega) (by omega) (by omega) (by omega)) (fun s hs => hn 11 s (by omega) (by decide) (by omega) (by omega)) (by omega) (fun j x hj a b => hd x (by omega) (by omega) (by omega))
  · intro j hj hj8
    rw [hd (22 + 9 * j) (by omega) (by omega) (by omega)]; exact x6 j hj hj8
  · rw [hAJ, x7]
    exact (prevE.same (fun j hj => hn 9 j (by omega) (by decide) (by omega) (by omega))).symm
  · rw [hAJ, hn 8 J (by omega) (by decide) (by omega) (by omega)]; exact x8
  · rw [hAJ, hNn]; omega
  · rw [hNn]; exact n9
  · rw [hd _ (by omega) (by omega) (by omega)]; exact x11
  · rw [hd _ (by omega) (by omega) (by omega), hn 6 J (by omega) (by decide) (by omega) (by omega)]; exact x12
  · rw [e9, x13, nI_s, hAJ, hNn, show Nn τ - An τ J + 1 = N + 1 - An τ J by omega]
  · rw [hd _ (by omega) (by omega) (by omega)]; exact x14
  · rw [hd _ (by omega) (by omega) (by omega)]; exact x15
  · rw [hd _ (by omega) (by omega) (by omega), hAJ]; exact x16
  · intro s s1 s2
    rw [hAJ] at s1
    rw [hNn] at s2
    by_cases q : s = N
    · subst q; rw [hGN, n11]; exact ⟨rfl, Nat.le_refl _⟩
    · rw [hG s (by omega), hn 11 s (by omega) (by decide) (by omega) (by omega)]
      have := x18 s s1 (by omega)
      exact ⟨this.1, by omega⟩
  · intro s t s1 s2 s3
    rw [hAJ] at s1
    rw [hNn] at s3
    by_cases q : t = N
    · subst q
      rw [hGN]
      by_cases q2 : s = t
      · subst q2; rw [hGN]; exact Nat.le_refl _
      · rw [hG s (by omega)]
        have := x18 s s1 (by omega)
        omega
    · rw [hG s (by omega), hG t (by omega)]
      exact x19 s t s1 s2 (by omega)
  · intro _
    rw [n7, nI_s]
theorem PR.step (hF : 5000 ≤ F) (hB : BT β T L) {J g g' : Nat} (h : PR T L ν (X1 J g) b τ ρ μ) (hJ : J < 8) (hgg : g ≤ g') (hg4 : g' ≤ 4) : ∃ τ' ρ' μ', mX1_readStep F β τ ρ (nI g') = some (τ', ρ') ∧ mX4_readStep F μ (nI J) (nI g') = some μ' ∧ PR T L ν (fun τ2 f5 f6 d o => X1 J g' τ2 f5 f6 d o ∧ Nn τ2 = Nn τ + 1 ∧ An τ2 J < Nn τ2 ∧ An τ2 J = An τ J) b τ' ρ' μ' := by
  by_cases hg : μ 5 0 = 0
  · obtain ⟨hAt, hX⟩ := h.2.2.2 hg
    have hs := h.1.2.1
    obtain ⟨⟨b1, b2, b3, b4, b5, b6, b7, b8, b9, b10, b11⟩, x1, x2, x3, x4, -⟩ := id hX
    have hr1 : rd (μ 9) 451 1 = some (τ 2 0) := by rw [← b5]; exact rG1
    obtain ⟨r1, ρ2, r1', μ3, k1, k2, k3, k4⟩ := h.num (F := F) hF hB 0 (τ 2 0 - 1)
    have hfr3 : μ3 5 0 = 0 → μ3 9 3 = nI (Nn τ) := fun q => by
      have := (k3.2.2.2 q).2.1
      rw [this.2.2.2.2.2.1, this.2.1.1]
    unfold mX1_readStep mX4_readStep
    rw [hr1, ob1_e, k1, k2, ob2_e, ob2_e, c_room b2.1 b2.2, ob1_e, m_good, ob1_e, show rd (μ3 9) 451 3 = some (μ3 9 3) from rG3, ob1_e]
    by_cases hN : Nn τ < 40
    · have hno : (if b01 (decide (μ3 5 0 = 0)) = 0 then some false else (if μ3 9 3 = (40 : Int32) then some true else some false)) = some false := by
        by_cases q : μ3 5 0 = 0
        · have : ¬ nI (Nn τ) = (40 : Int32) := fun q2 => by
            have := (nI_i (b := 40) (by omega) (by decide)).mp q2
            omega
          rw [hfr3 q, if_neg this]; simp [q, b01]
        · simp [q, b01]
      rw [show decide (Nn τ < 40) = true from decide_eq_true hN, if_neg (show ¬ b01 true = 0 by decide), hno, ob1_e, cnd_F, ob1_e]
      obtain ⟨ρ6, μ6, l1, l2, l3⟩ := k3.sign (F := F) hF hB (c := 42) rfl
      rw [l1, l2, ob1_e, ob1_e]
      obtain ⟨r7, ρ8, r7', μ8, m1, m2, m3, m4⟩ := (l3.weak (b' := b) (by omega)).num (F := F) hF hB 1 999
      rw [m1, m2, ob2_e, ob2_e]
      obtain ⟨ρ9, μ9, n1, n2, n3⟩ := m3.sign (F := F) hF hB (c := 58) rfl
      rw [n1, n2, ob1_e, ob1_e]
      obtain ⟨r10, ρ11, r10', μ11, o1, o2, o3, o4⟩ := (n3.weak (b' := b) (by omega)).num (F := F) hF hB 1 99
      rw [o1, o2, ob2_e, ob2_e]
      obtain ⟨v15, ρ16, v15', μ16, p1, p2, p3, p4⟩ := o3.opt (F := F) hF hB (w := 7) (by decide)
      have p2' := @p2
      rw [p1, p2']
      obtain ⟨v25, ρ26, v25', μ26, q1, q2, q3, q4⟩ := p3.opt (F := F) hF hB (w := 8) (by decide)
      have q2' := @q2
      rw [q1, q2', c_addStep b2.1 hN x3 (by omega), if_neg (by omega), ob1_e, m_good, ob1_e]
      have hs' : SF (adF τ (Nn τ) (J + 1) (nI g') r1 r7 r10 v15 v25) := hs.add b2.1 hN x3 (by omega)
      by_cases hge : μ26 5 0 = 0
      · obtain ⟨t1, t2, t3⟩ := q4 hge
        obtain ⟨t4, t5, t6⟩ := p4 t3
        obtain ⟨t7, t8, t9, -⟩ := o4 t6
        have hg9 := gb_num o2 t6
        have hg8 := gb_exp n2 hg9
        obtain ⟨t10, t11, t12, -⟩ := m4 hg8
        have hg6 := gb_num m2 hg8
        have hg3 := gb_exp l2 hg6
        obtain ⟨t13, t14, t15, -⟩ := k4 hg3
        subst t1 t4 t7 t10 t13
        obtain ⟨hAt', hX'⟩ := q3.2.2.2 hge
        have d3 : μ26 9 3 = nI (Nn τ) := by rw [hX'.1.2.2.2.2.2.1, hX'.1.2.1.1]
        have hb := hX'.1.1
        rw [ltI, show (0 : Int32).toInt = 0 from rfl] at t14
        rw [ltI, hb.1, sI (by rw [nI_toInt (by omega)]; have : (1 : Int32).toInt = 1 := rfl; omega) (by rw [nI_toInt (by omega)]; have : (1 : Int32).toInt = 1 := rfl; omega), nI_toInt (by omega), show (1 : Int32).toInt = 1 from rfl] at t15
        rw [ltI, show (1 : Int32).toInt = 1 from rfl] at t11 t8
        rw [ltI, show (999 : Int32).toInt = 999 from rfl] at t12
        rw [ltI, show (99 : Int32).toInt = 99 from rfl] at t9
        rw [show decide (μ26 5 0 = 0) = true from decide_eq_true hge, if_neg (show ¬ b01 true = 0 by decide), rG3, d3, ob1_e, n91, v9S0 hN, ob1_e, v9S1 hN, ob1_e, v9S2 hN, ob1_e, v9S3 hN, ob1_e, v9S4 hN, ob1_e, v9S5 hN, ob1_e, v9S6 hN, ob1_e, v9S7 hN, ob1_e, v9S8 hN, ob1_e, rG3, ob1_e, v9G3, ob1_e, n19, rJ3 hJ, ob1_e, v9J3 hJ, ob1_e]
        have c1 : ∀ (μ : MS) (x : Nat) (v : Int32) (y : Nat), y ≠ x → u2 μ 9 x v 9 y = μ 9 y := fun μ x v y h => u2_n _ _ _ _ _ _ (by omega)
        have e3 : u2 (u2 (u2 (u2 (u2 (u2 (u2 (u2 (u2 μ26 9 (91 + 9 * Nn τ) (nI g')) 9 (92 + 9 * Nn τ) r1) 9 (93 + 9 * Nn τ) r7) 9 (94 + 9 * Nn τ) r10) 9 (95 + 9 * Nn τ) 0) 9 (96 + 9 * Nn τ) v15) 9 (97 + 9 * Nn τ) v25) 9 (98 + 9 * Nn τ) v25) 9 (99 + 9 * Nn τ) 0 9 3 = nI (Nn τ) := by
          rw [c1 _ _ _ _ (by omega), c1 _ _ _ _ (by omega), c1 _ _ _ _ (by omega), c1 _ _ _ _ (by omega), c1 _ _ _ _ (by omega), c1 _ _ _ _ (by omega), c1 _ _ _ _ (by omega), c1 _ _ _ _ (by omega), c1 _ _ _ _ (by omega)]
          exact d3
        rw [e3, nI_s]
        have e22 : ∀ v, u2 (u2 (u2 (u2 (u2 (u2 (u2 (u2 (u2 (u2 μ26 9 (91 + 9 * Nn τ) (nI g')) 9 (92 + 9 * Nn τ) r1) 9 (93 + 9 * Nn τ) r7) 9 (94 + 9 * Nn τ) r10) 9 (95 + 9 * Nn τ) 0) 9 (96 + 9 * Nn τ) v15) 9 (97 + 9 * Nn τ) v25) 9 (98 + 9 * Nn τ) v25) 9 (99 + 9 * Nn τ) 0) 9 3 v 9 (22 + 9 * J) = μ26 9 (22 + 9 * J) := fun v => by
          rw [c1 _ _ _ _ (by omega), c1 _ _ _ _ (by omega), c1 _ _ _ _ (by omega), c1 _ _ _ _ (by omega), c1 _ _ _ _ (by omega), c1 _ _ _ _ (by omega), c1 _ _ _ _ (by omega), c1 _ _ _ _ (by omega), c1 _ _ _ _ (by omega), c1 _ _ _ _ (by omega)]
        rw [e22]
        refine ⟨_, ρ26, _, rfl, rfl, q3.row hs' (fun q hq => ?_) (fun _ hX2 => ?_)⟩
        · repeat rw [u2_o _ _ _ _ _ hq]
        · have key := hX2.add (N := Nn τ) (g' := g') (i2 := r1) (i3 := r7) (i4 := r10) (i5 := v15) (i6 := v25) (k := nv r1) rfl hN hgg hg4 (nI_nv (by omega)) (by unfold nv; omega) ⟨by omega, by omega⟩ ⟨by omega, by omega⟩ t5 (d' := (u2 (u2 (u2 (u2 (u2 (u2 (u2 (u2 (u2 (u2 (u2 μ26 9 (91 + 9 * Nn τ) (nI g')) 9 (92 + 9 * Nn τ) r1) 9 (93 + 9 * Nn τ) r7) 9 (94 + 9 * Nn τ) r10) 9 (95 + 9 * Nn τ) 0) 9 (96 + 9 * Nn τ) v15) 9 (97 + 9 * Nn τ) v25) 9 (98 + 9 * Nn τ) v25) 9 (99 + 9 * Nn τ) 0) 9 3 (nI (Nn τ + 1))) 9 (22 + 9 * J) (μ26 9 (22 + 9 * J) + 1)) 9) (fun x q1 q2 q3 => ?_) ?_ ?_ ?_ ?_ ?_ ?_ ?_ ?_ ?_ ?_
          · exact ⟨key.1, key.2.1, by rw [key.2.1]; exact key.2.2.1, key.2.2.2⟩
          · rw [c1 _ _ _ _ q3, c1 _ _ _ _ q2, c1 _ _ _ _ (by omega), c1 _ _ _ _ (by omega), c1 _ _ _ _ (by omega), c1 _ _ _ _ (by omega), c1 _ _ _ _ (by omega), c1 _ _ _ _ (by omega), c1 _ _ _ _ (by omega), c1 _ _ _ _ (by omega), c1 _ _ _ _ (by omega)]
          · rw [c1 _ _ _ _ (by omega), c1 _ _ _ _ (by omega), c1 _ _ _ _ (by omega), c1 _ _ _ _ (by omega), c1 _ _ _ _ (by omega), c1 _ _ _ _ (by omega), c1 _ _ _ _ (by omega), c1 _ _ _ _ (by omega), c1 _ _ _ _ (by omega), c1 _ _ _ _ (by omega), u2_s]
          · rw [c1 _ _ _ _ (by omega), c1 _ _ _ _ (by omega), c1 _ _ _ _ (by omega), c1 _ _ _ _ (by omega), c1 _ _ _ _ (by omega), c1 _ _ _ _ (by omega), c1 _ _ _ _ (by omega), c1 _ _ _ _ (by omega), c1 _ _ _ _ (by omega), u2_s]
          · rw [c1 _ _ _ _ (by omega), c1 _ _ _ _ (by omega), c1 _ _ _ _ (by omega), c1 _ _ _ _ (by omega), c1 _ _ _ _ (by omega), c1 _ _ _ _ (by omega), c1 _ _ _ _ (by omega), c1 _ _ _ _ (by omega), u2_s]
          · rw [c1 _ _ _ _ (by omega), c1 _ _ _ _ (by omega), c1 _ _ _ _ (by omega), c1 _ _ _ _ (by omega), c1 _ _ _ _ (by omega), c1 _ _ _ _ (by omega), c1 _ _ _ _ (by omega), u2_s]
          · rw [c1 _ _ _ _ (by omega), c1 _ _ _ _ (by omega), c1 _ _ _ _ (by omega), c1 _ _ _ _ (by omega), c1 _ _ _ _ (by omega), c1 _ _ _ _ (by omega), u2_s]
          · rw [c1 _ _ _ _ (by omega), c1 _ _ _ _ (by omega), c1 _ _ _ _ (by omega), c1 _ _ _ _ (by omega), c1 _ _ _ _ (by omega), u2_s]
          · rw [c1 _ _ _ _ (by omega), c1 _ _ _ _ (by omega), c1 _ _ _ _ (by omega), c1 _ _ _ _ (by omega), u2_s]
          · rw [c1 _ _ _ _ (by omega), c1 _ _ _ _ (by omega), c1 _ _ _ _ (by omega), u2_s]
          · rw [c1 _ _ _ _ (by omega), u2_s]
          · rw [u2_s]
      · rw [show decide (μ26 5 0 = 0) = false from decide_eq_false hge, if_pos (show b01 false = 0 from rfl)]
        exact ⟨_, ρ26, _, rfl, rfl, q3.tau hs' (fun q => absurd q hge)⟩
    · rw [show decide (Nn τ < 40) = false from decide_eq_false hN, if_pos (show b01 false = 0 from rfl)]
      by_cases hg3 : μ3 5 0 = 0
      · have h40 : nI (Nn τ) = (40 : Int32) := by rw [show Nn τ = 40 by omega]; rfl
        obtain ⟨ρ', μ', f1, f2, f3, f4⟩ := k3.fail (F := F) (β := β) (e := -4) (o := ρ 8 0) (o' := μ3 13 0) (by decide) (fun q => (k4 q).2.2.2.symm) (fun τ2 f5 f6 d o => X1 J g' τ2 f5 f6 d o ∧ Nn τ2 = Nn τ + 1 ∧ An τ2 J < Nn τ2 ∧ An τ2 J = An τ J) b
        rw [f1, ob1_e, show decide (μ3 5 0 = 0) = true from decide_eq_true hg3, if_neg (show ¬ b01 true = 0 by decide), hfr3 hg3, if_pos h40, ob1_e, cnd_T, f2, ob1_e, ob1_e]
        simp only [ob1_e, m_numF f4, ob2_e, m_goodF f4, if_true, m_expF f4, m_wordF f4]
        exact ⟨τ, ρ', μ', rfl, rfl, f3⟩
      · have hρ2 : ρ2 1 0 ≠ 0 := fun q => hg3 (k3.2.1.symm.trans q)
        rw [c_fail0 hρ2, ob1_e, show decide (μ3 5 0 = 0) = false from decide_eq_false hg3, if_pos (show b01 false = 0 from rfl), ob1_e, cnd_F]
        simp only [ob1_e, m_numF hg3, ob2_e, m_goodF hg3, if_true, m_expF hg3, m_wordF hg3]
        exact ⟨τ, ρ2, μ3, rfl, rfl, k3.bad hg3 _ _⟩
  · obtain ⟨τ', ρ', h1, h2⟩ := cb_step (Y := fun τ2 f5 f6 d o => X1 J g' τ2 f5 f6 d o ∧ Nn τ2 = Nn τ + 1 ∧ An τ2 J < Nn τ2 ∧ An τ2 J = An τ J) (F := F) hF hB h hg (nI g')
    exact ⟨τ', ρ', μ, h1, m_stepF hg, h2⟩
end RS
