/-! pure: both read a journey, a stock, the wait, the patience -/
section RD
variable {T : FS} {L : Nat} {ν τ ρ μ : MS} {X Y : XT} {b : Nat} {F : Nat} {β : FS}
theorem X2.fin {J : Nat} {f5 f6 o : Int32} {d d' : FS} (h : X2 J τ f5 f6 d o) (hd : ∀ x, x ≠ 2 → d' x = d x) (h2 : d' 2 = nI (J + 1)) : X0 τ f5 f6 d' o := by
  obtain ⟨g, ⟨⟨b1, b2, b3, b4, b5, b6, b7, b8, b9, b10, b11⟩, x1, x2, x3, x4, x5, x6, x7, x8, x9, x10, x11, x12, x13, x14, x15, x16, x17, x18, x19, x20⟩, hA, h21⟩ := h
  have hE : En τ J = Nn τ := by unfold En; rw [x10, nv_nI (by have := b2.2; omega)]
  have hC : Cn τ J = g + 1 := by unfold Cn; rw [x20 hA, nv_nI (by omega)]
  refine ⟨⟨b1, b2, by rw [hd _ (by omega)]; exact b3, by rw [hd _ (by omega)]; exact b4, by rw [hd _ (by omega)]; exact b5, by rw [hd _ (by omega)]; exact b6, by rw [hd _ (by omega)]; exact b7, by rw [hd _ (by omega)]; exact b8, b9, fun k hk => (b10 k hk).same rfl rfl (fun x a b => hd x (by omega)), fun s hs => ⟨(b11 s hs).1.same (fun _ _ _ => rfl) (fun x a b => hd x (by omega)), (b11 s hs).2⟩⟩, x1, J + 1, x3, by omega, h2, fun j hj => ?_, fun j a b => by rw [hd _ (by omega)]; exact x6 j a b, ?_⟩
  · by_cases q : j = J
    · subst q
      refine ⟨⟨x8, by rw [hE]; exact x10, by rw [hE]; exact hA, by rw [hE]; exact Nat.le_refl _, by rw [hC]; exact x20 hA, by omega, by omega, fun s s1 s2 => ?_, fun s t s1 s2 s3 => ?_⟩, ⟨by rw [hd _ (by omega)]; exact x11, by rw [hd _ (by omega)]; exact x12, by rw [hd _ (by omega), h21, x20 hA], by rw [hd _ (by omega), hE]; exact x13, by rw [hd _ (by omega)]; exact x14, by rw [hd _ (by omega)]; exact x15, by rw [hd _ (by omega)]; exact x16⟩, x7⟩
      · rw [hE] at s2
        have := x18 s s1 s2
        exact ⟨this.1, by omega⟩
      · rw [hE] at s3
        exact x19 s t s1 s2 s3
    · exact x5.same (d' := d') (fun _ _ _ _ _ => rfl) (fun _ _ => rfl) (Nat.le_refl _) (fun j x hj a b => hd x (by omega)) j (by omega)
  · unfold prevE
    rw [if_neg (by omega), Nat.add_sub_cancel]
    exact hE
/-- one more journey, without steps yet -/
def ajF (τ : MS) (J N : Nat) (i : Int32) : MS := pf (u2 (u2 (u2 τ 6 J i) 8 J (nI N)) 9 J (nI N)) 5 (nI (J + 1))
theorem c_roomJ {J : Nat} (h : τ 5 0 = nI J) (hJ : J ≤ 8) : mX0_hasRoomForJourney F τ = some (b01 (decide (J < 8))) := by
  unfold mX0_hasRoomForJourney
  rw [h]
  by_cases q : J < 8
  · rw [if_neg (i32_nle (c := 8) (b := 8) rfl (by omega) (by decide) q), ob1_e]; simp [q, b01]
  · have : J = 8 := by omega
    subst this
    rw [if_pos (by decide), ob1_e]; rfl
theorem c_addJ {J N : Nat} {i : Int32} (h5 : τ 5 0 = nI J) (hJ : J < 8) (h10 : τ 10 0 = nI N) : mX0_addJourney F τ i = some (ajF τ J N i) := by
  unfold mX0_addJourney
  rw [c_roomJ h5 (by omega), ob1_e, show decide (J < 8) = true from decide_eq_true hJ, if_neg (show ¬ b01 true = 0 by decide), h5, wra_at hJ (by decide), ob1_e]
  simp only [u2_at, Nat.reduceEqDiff, false_and, if_false, h5, h10]
  rw [wra_at hJ (by decide), ob1_e]
  simp only [u2_at, Nat.reduceEqDiff, false_and, if_false, h5, h10]
  rw [wra_at hJ (by decide), ob1_e, ob1_e, ob1_e]
  simp only [u2_at, Nat.reduceEqDiff, false_and, if_false, h5, h10, nI_s]
  rfl
theorem SF.addJ (h : SF τ) {J N : Nat} {i : Int32} (hJ : J < 8) : SF (ajF τ J N i) := by
  have e2 : ajF τ J N i 2 0 = τ 2 0 := by unfold ajF; simp [u2_at, pf_at]
  have e5 : ajF τ J N i 5 0 = nI (J + 1) := by unfold ajF; simp [pf_at]
  have e10 : ajF τ J N i 10 0 = τ 10 0 := by unfold ajF; simp [u2_at, pf_at]
  unfold SF
  rw [e2, e5, e10]
  exact ⟨h.1, ⟨J + 1, rfl, by omega⟩, h.2.2⟩
theorem X0.addJ {J : Nat} {f5 f6 o i : Int32} {d d' : FS} (h : X0 τ f5 f6 d o) (hJ5 : τ 5 0 = nI J) (hJ : J < 8) (hd : ∀ x, ¬ (19 + 9 * J ≤ x ∧ x ≤ 20 + 9 * J) → ¬ (23 + 9 * J ≤ x ∧ x ≤ 25 + 9 * J) → d' x = d x) (e0 : d' (19 + 9 * J) = 0) (e1 : d' (20 + 9 * J) = i) (e4 : d' (23 + 9 * J) = -1) (e5 : d' (24 + 9 * J) = -1) (e6 : d' (25 + 9 * J) = nI (Nn τ)) : X1 J 0 (ajF τ J (Nn τ) i) f5 f6 d' o := by
  obtain ⟨⟨b1, b2, b3, b4, b5, b6, b7, b8, b9, b10, b11⟩, x1, J', x2, x3, x4, x5, x6, x7⟩ := h
  have hJJ : J' = J := (nI_i (by omega) (by omega)).mp (x2.symm.trans hJ5)
  subst hJJ
  have hN := b2.2
  have hn : ∀ c x, c ≠ 5 → ¬ ((c = 6 ∨ c = 8 ∨ c = 9) ∧ x = J') → ajF τ J' (Nn τ) i c x = τ c x := fun c x q1 q2 => by
    unfold ajF
    rw [pf_n _ _ _ _ _ q1, u2_n _ _ _ _ _ _ (by omega), u2_n _ _ _ _ _ _ (by omega), u2_n _ _ _ _ _ _ (by omega)]
  have n5 : ajF τ J' (Nn τ) i 5 0 = nI (J' + 1) := by unfold ajF; simp [pf_at]
  have n6 : ajF τ J' (Nn τ) i 6 J' = i := by unfold ajF; simp [u2_at, pf_at]
  have n8 : ajF τ J' (Nn τ) i 8 J' = nI (Nn τ) := by unfold ajF; simp [u2_at, pf_at]
  have n9 : ajF τ J' (Nn τ) i 9 J' = nI (Nn τ) := by unfold ajF; simp [u2_at, pf_at]
  generalize ajF τ J' (Nn τ) i = τ' at hn n5 n6 n8 n9 ⊢
  have hNn : Nn τ' = Nn τ := by unfold Nn; rw [hn 10 0 (by decide) (by omega)]
  have hSn : Sn τ' = Sn τ := by unfold Sn; rw [hn 2 0 (by decide) (by omega)]
  have hAJ : An τ' J' = Nn τ := by unfold An; rw [n8, nv_nI (by omega)]
  have hp : prevE τ' J' = prevE τ J' := prevE.same (fun j hj => hn 9 j (by decide) (by omega))
  refine ⟨⟨by rw [hSn, hn 2 0 (by decide) (by omega)]; exact b1, by rw [hNn, hn 10 0 (by decide) (by omega)]; exact b2, by rw [hd _ (by omega) (by omega)]; exact b3, by rw [hd _ (by omega) (by omega)]; exact b4, by rw [hd _ (by omega) (by omega), hn 2 0 (by decide) (by omega)]; exact b5, by rw [hd _ (by omega) (by omega), hn 10 0 (by decide) (by omega)]; exact b6, by rw [hd _ (by omega) (by omega), hn 0 0 (by decide) (by omega)]; exact b7, by rw [hd _ (by omega) (by omega), hn 1 0 (by decide) (by omega)]; exact b8, by rw [hn 1 0 (by decide) (by omega)]; exact b9, fun k hk => ?_, fun s hs => ?_⟩, x1, hJ, n5, by rw [hd _ (by omega) (by omega)]; exact x4, ?_, fun j a c => by rw [hd _ (by omega) (by omega)]; exact x6 j (by omega) c, by rw [hAJ, hp, x7], by rw [hAJ]; exact n8, by rw [hAJ, hNn]; exact Nat.le_refl _, by rw [hNn]; exact n9, e0, by rw [e1, n6], ?_, e4, e5, by rw [e6, hAJ], by omega, fun s s1 s2 => ?_, fun s t s1 s2 s3 => ?_, fun q => ?_⟩
  · rw [hSn] at hk
    have := b1.2
    exact (b10 k hk).same (hn 3 k (by decide) (by omega)) (hn 4 k (by decide) (by omega)) (fun x a b => hd x (by omega) (by omega))
  · rw [hNn] at hs
    obtain ⟨p1, p2⟩ := b11 s hs
    exact ⟨p1.same (fun c c1 c2 => hn c s (by omega) (by omega)) (fun x a b => hd x (by omega) (by omega)), p2.same (fun c c1 c2 => hn c s (by omega) (by omega)) (by rw [hSn]; exact Nat.le_refl _)⟩
  · exact x5.same (fun c j hj c1 c2 => hn c j (by omega) (by omega)) (fun s hs => hn 11 s (by decide) (by omega)) (by rw [hNn]; exact Nat.le_refl _) (fun j x hj a b => hd x (by omega) (by omega))
  · rw [hd _ (by omega) (by omega), x6 J' (Nat.le_refl _) hJ, hAJ, hNn, Nat.sub_self]; rfl
  · rw [hAJ] at s1; rw [hNn] at s2; omega
  · rw [hAJ] at s1; rw [hNn] at s3; omega
  · rw [hAJ, hNn] at q; omega
/-- behind its word: both read a journey -/
theorem PR.journey (hF : 5000 ≤ F) (hB : BT β T L) (hcm : Cm T L ν τ ρ μ) (h1 : ρ 1 0 = 0) (hg : μ 5 0 = 0) (h2 : ρ 2 0 = μ 6 0) (hX : X0 τ (ρ 5 0) (ρ 6 0) (μ 9) (μ 14 0)) (hn : ok (mX1_nextToken F β τ ρ) (fun ρ' => PR T L ν X0 b τ ρ' μ)) : ∃ τ' ρ' μ', mX1_readJourney F β τ ρ = some (τ', ρ') ∧ mX4_readJourney F μ (ρ 8 0) = some μ' ∧ PR T L ν X0 b τ' ρ' μ' := by
  have hs := hcm.2.1
  obtain ⟨⟨b1, b2, b3, b4, b5, b6, b7, b8, b9, b10, b11⟩, x1, J, x2, x3, x4, -⟩ := id hX
  have hN := b2.2
  unfold mX1_readJourney mX4_readJourney
  rw [c_roomJ x2 x3, ob1_e, rG2, x4, ob1_e]
  by_cases hJ : J < 8
  · have hne : ¬ nI J = (8 : Int32) := fun q => by have := (nI_i (b := 8) (by omega) (by decide)).mp q; omega
    obtain ⟨ρ4, n1, n2⟩ := hn
    obtain ⟨r5, ρ6, r8, μ9, k1, k2, k3, k4⟩ := n2.num (F := F) hF hB 0 999
    rw [show decide (J < 8) = true from decide_eq_true hJ, if_neg (show ¬ b01 true = 0 by decide), n1, ob1_e, k1, ob2_e, c_addJ x2 hJ b2.1, ob1_e, if_neg hne, ob1_e, rG2, x4, ob1_e, k2, ob2_e, m_good, ob1_e]
    by_cases hg9 : μ9 5 0 = 0
    · obtain ⟨rfl, -, -, -⟩ := k4 hg9
      have hX9 := (k3.2.2.2 hg9).2
      have d3 : μ9 9 3 = nI (Nn τ) := by rw [hX9.1.2.2.2.2.2.1]; exact b2.1
      have c1 : ∀ (μ : MS) (x : Nat) (v : Int32) (y : Nat), y ≠ x → u2 μ 9 x v 9 y = μ 9 y := fun μ x v y h => u2_n _ _ _ _ _ _ (by omega)
      rw [show decide (μ9 5 0 = 0) = true from decide_eq_true hg9, if_neg (show ¬ b01 true = 0 by decide), n19, v9J0 hJ, ob1_e, v9J1 hJ, ob1_e, v9J4 hJ, ob1_e, v9J5 hJ, ob1_e, rG3, ob1_e, v9J6 hJ, ob1_e]
      rw [c1 _ _ _ _ (by omega), c1 _ _ _ _ (by omega), c1 _ _ _ _ (by omega), c1 _ _ _ _ (by omega), d3]
      have hrow : PR T L ν (X1 J 0) b (ajF τ J (Nn τ) r5) ρ6 (u2 (u2 (u2 (u2 (u2 μ9 9 (19 + 9 * J) 0) 9 (20 + 9 * J) r5) 9 (23 + 9 * J) (-1)) 9 (24 + 9 * J) (-1)) 9 (25 + 9 * J) (nI (Nn τ))) := k3.row (hs.addJ hJ) (fun q hq => by repeat rw [u2_o _ _ _ _ _ hq]) (fun _ hx => hx.addJ x2 hJ (fun x q1 q2 => by
          rw [c1 _ _ _ _ (by omega), c1 _ _ _ _ (by omega), c1 _ _ _ _ (by omega), c1 _ _ _ _ (by omega), c1 _ _ _ _ (by omega)])
          (by rw [c1 _ _ _ _ (by omega), c1 _ _ _ _ (by omega), c1 _ _ _ _ (by omega), c1 _ _ _ _ (by omega), u2_s])
          (by rw [c1 _ _ _ _ (by omega), c1 _ _ _ _ (by omega), c1 _ _ _ _ (by omega), u2_s])
          (by rw [c1 _ _ _ _ (by omega), c1 _ _ _ _ (by omega), u2_s])
          (by rw [c1 _ _ _ _ (by omega), u2_s])
          (by rw [u2_s]))
      have hgr : (u2 (u2 (u2 (u2 (u2 μ9 9 (19 + 9 * J) 0) 9 (20 + 9 * J) r5) 9 (23 + 9 * J) (-1)) 9 (24 + 9 * J) (-1)) 9 (25 + 9 * J) (nI (Nn τ))) 5 0 = 0 := by
        rw [u2_o _ _ _ _ 5 (by decide), u2_o _ _ _ _ 5 (by decide), u2_o _ _ _ _ 5 (by decide), u2_o _ _ _ _ 5 (by decide), u2_o _ _ _ _ 5 (by decide)]; exact hg9
      have hNJ : Nn (ajF τ J (Nn τ) r5) = Nn τ := by unfold Nn ajF; simp [u2_at, pf_at]
      have hAJ : An (ajF τ J (Nn τ) r5) J = Nn τ := by
        have : ajF τ J (Nn τ) r5 8 J = nI (Nn τ) := by unfold ajF; simp [u2_at, pf_at]
        unfold An; rw [this, nv_nI (by omega)]
      obtain ⟨τ8, ρ9, μ19, s1, s2, s3⟩ := hrow.step (F := F) hF hB hJ (Nat.le_refl 0) (by omega)
      obtain ⟨f, rfl⟩ : ∃ f, F = f + 1 := ⟨F - 1, by omega⟩
      obtain ⟨bres, τ', ρ', μ45, e1, e2, e3, e4⟩ := PR.stages (F := f + 1) (b := b) (ν := ν) hF hB hJ 41 1 0 0 (f + 1) (f + 1) f τ8 ρ9 μ19 (s3.imp (fun q => ⟨q.1, q.2.2.1⟩)) (by omega) (by omega) (by omega) (fun q => by
        have := (s3.2.2.2 q).2
        have q1 := this.2.1
        have q2 := this.2.2.2
        omega) (by omega) (by omega) (by omega)
      have hloop := L113_eq (F := f + 1) (J := J) (g := 0) (fuO := f) (v20 := 1) hgr (by decide)
      rw [s2, ob1_e, e3] at hloop
      have s1' : mX1_readStep (f + 1) β (ajF τ J (Nn τ) r5) ρ6 (0 : Int32) = some (τ8, ρ9) := s1
      rw [s1', ob2_e]
      rw [show loopM (fun st : Int32 × Int32 × Int32 × MS × MS => mX1_readJourney_L54 (f + 1) β st.1 st.2.1 st.2.2.1 st.2.2.2.1 st.2.2.2.2) (f + 1) ((0 : Int32), (1 : Int32), (0 : Int32), τ8, ρ9) = some bres from e1, ob1_e]
      rw [show loopM (fun st : Int32 × Int32 × MS => mX4_readJourney_L113 (f + 1) (nI (19 + 9 * J)) (nI J) st.1 st.2.1 st.2.2) (f + 1) ((0 : Int32), (1 : Int32), u2 (u2 (u2 (u2 (u2 μ9 9 (19 + 9 * J) 0) 9 (20 + 9 * J) r5) 9 (23 + 9 * J) (-1)) 9 (24 + 9 * J) (-1)) 9 (25 + 9 * J) (nI (Nn τ))) = some μ45 from hloop, ob1_e, rG2, ob1_e, v9G2, ob1_e]
      have hres : el2 bres (fun r => some r) (fun τ44 ρ45 => some (τ44, ρ45)) = some (τ', ρ') := by
        rcases e2 with rfl | rfl <;> rfl
      refine ⟨τ', ρ', _, hres, rfl, e4.row e4.1.2.1 (fun q hq => u2_o _ _ _ _ _ hq) (fun _ hx => ?_)⟩
      have hx2 := hx
      obtain ⟨g, hx1, -⟩ := hx2
      exact hx.fin (fun x hxx => c1 _ _ _ _ hxx) (by rw [u2_s, hx1.2.2.2.2.1, nI_s])
    · have hρ6 : ρ6 1 0 ≠ 0 := fun q => hg9 (k3.2.1.symm.trans q)
      obtain ⟨τ8, ρ9, s1, s2⟩ := cb_step (Y := X0) (F := F) hF hB (k3.tau (Y := X0) (hs.addJ (i := r5) (N := Nn τ) hJ) (fun q => absurd q hg9)) hg9 0
      have hρ9 : ρ9 1 0 ≠ 0 := fun q => hg9 (s2.2.1.symm.trans q)
      rw [show decide (μ9 5 0 = 0) = false from decide_eq_false hg9, if_pos (show b01 false = 0 from rfl), s1, ob2_e]
      rw [show loopM (fun st : Int32 × Int32 × Int32 × MS × MS => mX1_readJourney_L54 F β st.1 st.2.1 st.2.2.1 st.2.2.2.1 st.2.2.2.2) F ((0 : Int32), (1 : Int32), (0 : Int32), τ8, ρ9) = some (.inr (τ8, ρ9)) from loop_gol (c_L54_end hρ9) (by omega), ob1_e]
      exact ⟨τ8, ρ9, μ9, rfl, rfl, s2⟩
  · have hJ8 : J = 8 := by omega
    obtain ⟨ρ', μ', f1, f2, f3, f4⟩ := hcm.fail (F := F) (β := β) (h1.trans hg.symm) h2 (e := -4) (o := ρ 8 0) (o' := ρ 8 0) (by decide) (fun _ => rfl) X0 b
    have hr2 : rd (μ' 9) 451 2 = some (μ' 9 2) := rG2
    rw [show decide (J < 8) = false from decide_eq_false hJ, if_pos (show b01 false = 0 from rfl), f1, ob1_e, if_pos (show nI J = (8 : Int32) by rw [hJ8]; rfl), f2, ob1_e, ob1_e, hr2, ob1_e, m_numF f4, ob2_e, m_goodF f4, ob1_e, if_pos rfl]
    exact ⟨τ, ρ', μ', rfl, rfl, f3⟩
end RD
