/-! pure: both read the stages of a journey -/
theorem ob1_ob1 {α β γ : Type} (a : Option α) (f : α → Option β) (g : β → Option γ) : ob1 (ob1 a f) g = ob1 a (fun x => ob1 (f x) g) := by cases a <;> rfl
theorem ob1_ob2 {α β γ δ : Type} (a : Option (α × β)) (f : α → β → Option γ) (g : γ → Option δ) : ob1 (ob2 a f) g = ob2 a (fun x y => ob1 (f x y) g) := by cases a <;> rfl
def X2 (J : Nat) : XT := fun τ f5 f6 d o => ∃ g, X1 J g τ f5 f6 d o ∧ An τ J < Nn τ ∧ d (21 + 9 * J) = nI (g + 1)
def mT (F J g fuO : Nat) (μ30 : MS) : Option MS := ob1 (wra μ30 9 451 (nI (19 + 9 * J) + (2 : Int32)) (nI g + (1 : Int32))) fun μ31 => ob2 (mX4_next F μ31) fun r32 μ33 => ob2 (mX4_takeWord F μ33 15) fun r34 μ35 => ob1 (ob1 (if r34 = 0 then some false else (if (nI g + (1 : Int32)) = (5 : Int32) then some true else some false)) fun t40 => cnd t40 (ob1 (mX4_report F μ35 (-4 : Int32) (μ33 4 0)) fun μ44 => some μ44) (some μ35)) fun μ37 => loopM (fun st : Int32 × Int32 × MS => mX4_readJourney_L113 F (nI (19 + 9 * J)) (nI J) st.1 st.2.1 st.2.2) fuO (nI g + (1 : Int32), r34, μ37)
def mK (F J g fuI fuO ofS : Nat) (μ : MS) : Option MS := ob1 (loopM (fun st : Int32 × MS => mX4_readStage_L8 F (nI J) (nI g) st.1 st.2) fuI (nI ofS, μ)) fun b26 => ob1 (el1 b26 (fun r => some r) fun μ21 => some μ21) (mT F J g fuO)
section RJ
variable {T : FS} {L : Nat} {ν τ ρ μ : MS} {X Y : XT} {b : Nat} {F : Nat} {β : FS}
theorem loopM_u {α β : Type} (f : α → Option (β ⊕ α)) (n : Nat) (a : α) : loopM f (n + 1) a = ob1 (f a) (fun r => el1 r (fun b => some b) (fun a' => loopM f n a')) := rfl
theorem L113_val {J g : Nat} {v20 : Int32} (hg : μ 5 0 = 0) (hv : v20 ≠ 0) : mX4_readJourney_L113 F (nI (19 + 9 * J)) (nI J) (nI g) v20 μ = ob1 (mX4_readStage F μ (nI J) (nI g)) fun μ30 => ob1 (wra μ30 9 451 (nI (19 + 9 * J) + (2 : Int32)) (nI g + (1 : Int32))) fun μ31 => ob2 (mX4_next F μ31) fun r32 μ33 => ob2 (mX4_takeWord F μ33 15) fun r34 μ35 => ob1 (ob1 (if r34 = 0 then some false else (if (nI g + (1 : Int32)) = (5 : Int32) then some true else some false)) fun t40 => cnd t40 (ob1 (mX4_report F μ35 (-4 : Int32) (μ33 4 0)) fun μ44 => some μ44) (some μ35)) fun μ37 => some (.inr ((nI g + (1 : Int32)), r34, μ37)) := by
  unfold mX4_readJourney_L113
  rw [m_goodT hg, ob1_e, if_neg (show ¬ (1 : Int32) = 0 by decide), if_neg hv, ob1_e, cnd_T]
theorem stage_val {J g : Nat} : mX4_readStage F μ (nI J) (nI g) = ob1 (mX4_readStep F μ (nI J) (nI g)) fun μ1 => ob1 (loopM (fun st : Int32 × MS => mX4_readStage_L8 F (nI J) (nI g) st.1 st.2) F ((1 : Int32), μ1)) fun b26 => el1 b26 (fun r => some r) fun μ21 => some μ21 := rfl
theorem L113_eq {J g fuO : Nat} {v20 : Int32} (hg : μ 5 0 = 0) (hv : v20 ≠ 0) : loopM (fun st : Int32 × Int32 × MS => mX4_readJourney_L113 F (nI (19 + 9 * J)) (nI J) st.1 st.2.1 st.2.2) (fuO + 1) (nI g, v20, μ) = ob1 (mX4_readStep F μ (nI J) (nI g)) (mK F J g F fuO 1) := by
  rw [loopM_u]
  refine (congrArg (fun x => ob1 x _) (L113_val hg hv)).trans ?_
  rw [stage_val]
  simp only [ob1_ob1, ob1_ob2, ob1_e, el1_R]
  congr 1
  funext μ1
  unfold mK mT
  rw [show (1 : Int32) = nI 1 from rfl]
  simp only [ob1_ob1]
theorem L113_end {J fuO : Nat} {v19 v20 : Int32} (hg : μ 5 0 ≠ 0 ∨ v20 = 0) : loopM (fun st : Int32 × Int32 × MS => mX4_readJourney_L113 F (nI (19 + 9 * J)) (nI J) st.1 st.2.1 st.2.2) (fuO + 1) (v19, v20, μ) = some μ := by
  refine loopM_l ?_
  show mX4_readJourney_L113 F (nI (19 + 9 * J)) (nI J) v19 v20 μ = _
  unfold mX4_readJourney_L113
  by_cases h : μ 5 0 = 0
  · rcases hg with hg | hg
    · exact absurd h hg
    · rw [m_goodT h, ob1_e, if_neg (show ¬ (1 : Int32) = 0 by decide), if_pos hg, ob1_e, cnd_F]
  · rw [m_goodF h, ob1_e, if_pos rfl, ob1_e, cnd_F]
theorem mT_bad (hF : 5000 ≤ F) (hB : BT β T L) (h : PR T L ν X b τ ρ μ) (hg : μ 5 0 ≠ 0) {J g fuO : Nat} (hJ : J < 8) (hO : 0 < fuO) : ∃ μ', mT F J g fuO μ = some μ' ∧ PR T L ν Y b τ ρ μ' := by
  obtain ⟨fo1, rfl⟩ : ∃ k, fuO = k + 1 := ⟨fuO - 1, by omega⟩
  have hs := h.1.2.1
  have h1 : PR T L ν Y b τ ρ (u2 μ 9 (21 + 9 * J) (nI g + 1)) := h.row hs (fun q hq => u2_o _ _ _ _ _ hq) (fun q _ => absurd q hg)
  have hg1 : u2 μ 9 (21 + 9 * J) (nI g + 1) 5 0 ≠ 0 := by rw [u2_o _ _ _ _ 5 (by decide)]; exact hg
  obtain ⟨r, n1, n2, n3, -⟩ := h1.next (F := F) hF hB.1
  obtain ⟨r1, μ33⟩ := r
  have n2 : PR T L ν Y b τ ρ μ33 := n2
  have n3 : μ33 5 = u2 μ 9 (21 + 9 * J) (nI g + 1) 5 := n3
  have hg2 : μ33 5 0 ≠ 0 := by rw [n3]; exact hg1
  unfold mT
  rw [v9J2 hJ, ob1_e, n1, ob2_e, m_wordF hg2, ob2_e, if_pos rfl, ob1_e, cnd_F, ob1_e, L113_end (Or.inl hg2)]
  exact ⟨μ33, rfl, n2⟩
theorem mK_bad (hF : 5000 ≤ F) (hB : BT β T L) (h : PR T L ν X b τ ρ μ) (hg : μ 5 0 ≠ 0) {J g fuI fuO ofS : Nat} (hJ : J < 8) (hI : 0 < fuI) (hO : 0 < fuO) : ∃ μ', mK F J g fuI fuO ofS μ = some μ' ∧ PR T L ν Y b τ ρ μ' := by
  obtain ⟨μ', h1, h2⟩ := mT_bad (Y := Y) (F := F) hF hB h hg (g := g) hJ hO
  refine ⟨μ', ?_, h2⟩
  unfold mK
  rw [show loopM (fun st : Int32 × MS => mX4_readStage_L8 F (nI J) (nI g) st.1 st.2) fuI (nI ofS, μ) = some (.inr μ) from loop_gol (by
    show mX4_readStage_L8 F (nI J) (nI g) (nI ofS) μ = _
    unfold mX4_readStage_L8
    rw [m_goodF hg, ob1_e, if_pos rfl]) hI, ob1_e, el1_R, ob1_e]
  exact h1
theorem Cm.mix {μ' ρ' : MS} (h : Cm T L ν τ ρ μ) (h' : Cm T L ν τ ρ' μ') : Cm T L ν τ ρ μ' := ⟨⟨h.1.1, h'.1.2.1, h'.1.2.2.1, h'.1.2.2.2⟩, h.2.1, h.2.2.1, h'.2.2.2⟩
theorem c_L54_end {i o s : Int32} (hρ : ρ 1 0 ≠ 0) : mX1_readJourney_L54 F β i o s τ ρ = some (.inl (.inr (τ, ρ))) := by
  unfold mX1_readJourney_L54
  by_cases h : (40 : Int32) ≤ i
  · rw [if_pos h, ob1_e, cnd_F]
  · rw [if_neg h, if_neg hρ, ob1_e, cnd_F]
/-- behind a step: the class's one loop over and, then; the reference's two -/
theorem PR.stages (hF : 5000 ≤ F) (hB : BT β T L) {J : Nat} (hJ : J < 8) : ∀ (m : Nat) (ofS g i fuC fuI fuO : Nat) (τ ρ μ : MS), PR T L ν (fun τ f5 f6 d o => X1 J g τ f5 f6 d o ∧ An τ J < Nn τ) b τ ρ μ → 1 ≤ ofS → ofS ≤ 3 → g ≤ 4 → (μ 5 0 = 0 → 41 ≤ Nn τ + m ∧ i + An τ J + 1 = Nn τ) → m + 1 < fuC → 5 < ofS + fuI → 6 < g + fuO → ∃ bres τ' ρ' μ', loopM (fun st : Int32 × Int32 × Int32 × MS × MS => mX1_readJourney_L54 F β st.1 st.2.1 st.2.2.1 st.2.2.2.1 st.2.2.2.2) fuC (nI i, nI ofS, nI g, τ, ρ) = some bres ∧ (bres = .inl (τ', ρ') ∨ bres = .inr (τ', ρ')) ∧ mK F J g fuI fuO ofS μ = some μ' ∧ PR T L ν (X2 J) b τ' ρ' μ' := by
  have hL := hB.1
  intro m
  induction m with
  | zero =>
    intro ofS g i fuC fuI fuO τ ρ μ h h1 h2 h3 h4 h5 h6 h7
    have hg : μ 5 0 ≠ 0 := fun q => by
      have := h4 q
      have := (h.2.2.2 q).2.1.1.2.1.2
      omega
    have hρ : ρ 1 0 ≠ 0 := fun q => hg (h.2.1.symm.trans q)
    obtain ⟨μ', k1, k2⟩ := mK_bad (Y := X2 J) (F := F) hF hB h hg (g := g) (fuI := fuI) (fuO := fuO) (ofS := ofS) hJ (by omega) (by omega)
    exact ⟨_, τ, ρ, μ', loop_gol (c_L54_end hρ) (by omega), Or.inr rfl, k1, k2⟩
  | succ m ih =>
    intro ofS g i fuC fuI fuO τ ρ μ h h1 h2 h3 h4 h5 h6 h7
    by_cases hg : μ 5 0 = 0
    · obtain ⟨hN1, hN2⟩ := h4 hg
      obtain ⟨hAt, hX, hAN⟩ := h.2.2.2 hg
      have hN40 := hX.1.2.1.2
      have hρ : ρ 1 0 = 0 := h.2.1.trans hg
      -- the reference looks for and
      obtain ⟨rn, n1, n2, n3, n4, n5⟩ := h.next (F := F) hF hL
      obtain ⟨r9, μ10⟩ := rn
      have n2 : PR T L ν (fun τ f5 f6 d o => X1 J g τ f5 f6 d o ∧ An τ J < Nn τ) b τ ρ μ10 := n2
      have hg10 : μ10 5 0 = 0 := by rw [show μ10 5 = μ 5 from n3]; exact hg
      have n40 : μ10 4 0 = ρ 8 0 := (n4 hg).1
      obtain ⟨xa, a1, a2⟩ := n2.word (F := F) hF hB (w := 5) (by decide)
      obtain ⟨μ12, a3, a4, a5, a6, -⟩ := a2 hg10
      have hg12 : μ12 5 0 = 0 := by rw [a4 5 (by decide)]; exact hg10
      have hi40 : ¬ (40 : Int32) ≤ nI i := i32_nle (c := 40) (b := 40) rfl (by omega) (by decide) (by omega)
      cases xa with
      | true =>
        obtain ⟨ρ41, b1, b2, b3⟩ := a6 rfl
        have hL8 : mX4_readStage_L8 F (nI J) (nI g) (nI ofS) μ = ob1 (if nI ofS = (3 : Int32) then ob1 (mX4_report F μ12 (-4 : Int32) (μ10 4 0)) fun μ19 => some μ19 else some μ12) fun μ15 => ob1 (mX4_readStep F μ15 (nI J) (nI g)) fun μ20 => some (.inr ((nI ofS + (1 : Int32)), μ20)) := by
          unfold mX4_readStage_L8
          rw [m_goodT hg, ob1_e, if_neg (show ¬ (1 : Int32) = 0 by decide), n1, ob2_e, show mX4_takeWord F μ10 14 = some (b01 true, μ12) from a3, ob2_e, if_neg (show ¬ b01 true = 0 by decide)]
        have hL54 : mX1_readJourney_L54 F β (nI i) (nI ofS) (nI g) τ ρ = ob1 (if (3 : Int32) < nI ofS + 1 then some true else (if nI g < (5 : Int32) then some false else some true)) fun t36 => cnd t36 (ob1 (mX1_fail F β τ ρ (-4 : Int32) (ρ 8 0)) fun ρ40 => some (.inl (.inl (τ, ρ40)))) (ob1 (mX1_nextToken F β τ ρ) fun ρ41 => ob2 (mX1_readStep F β τ ρ41 (nI g)) fun τ42 ρ43 => some (.inr ((nI i + (1 : Int32)), nI ofS + 1, nI g, τ42, ρ43))) := by
          unfold mX1_readJourney_L54
          rw [if_neg hi40, if_pos hρ, a1, ob1_e, if_neg (show ¬ b01 true = 0 by decide), ob1_e, cnd_T, ob1_e, if_neg (show ¬ b01 true = 0 by decide), ob1_e, if_neg (show ¬ b01 true = 0 by decide), ob1_e]
        by_cases h3o : ofS = 3
        · subst h3o
          have hcm : Cm T L ν τ ρ μ12 := h.1.mix b2.1
          obtain ⟨ρ', μ', f1, f2, f3, f4⟩ := hcm.fail (F := F) (β := β) (by rw [hρ, hg12]) (by rw [h.2.2.1, a4 6 (by decide)]; exact (n2.2.2.1.symm.trans h.2.2.1).symm) (e := -4) (o := ρ 8 0) (o' := μ10 4 0) (by decide) (fun _ => n40.symm) (X2 J) b
          have hc : (if (3 : Int32) < nI 3 + 1 then some true else (if nI g < (5 : Int32) then some false else some true)) = some true := by rw [if_pos (by decide)]
          rw [hc, ob1_e, cnd_T, f1, ob1_e] at hL54
          rw [if_pos (show nI 3 = (3 : Int32) from rfl), f2, ob1_e, ob1_e, m_stepF f4, ob1_e] at hL8
          obtain ⟨μ2, k1, k2⟩ := mK_bad (Y := X2 J) (F := F) hF hB f3 f4 (g := g) (fuI := fuI - 1) (fuO := fuO) (ofS := 4) hJ (by omega) (by omega)
          refine ⟨_, τ, ρ', μ2, loop_gol hL54 (by omega), Or.inl rfl, ?_, k2⟩
          unfold mK at k1 ⊢
          rw [loop_gen (a' := (nI 4, μ')) (by show mX4_readStage_L8 F (nI J) (nI g) (nI 3) μ = _; rw [hL8, nI_s]) (by omega)]
          exact k1
        · have hc : (if (3 : Int32) < nI ofS + 1 then some true else (if nI g < (5 : Int32) then some false else some true)) = some false := by
            rw [nI_s, if_neg (show ¬ (3 : Int32) < nI (ofS + 1) from fun q => absurd ((nI_ltI (a := 3) (by decide) (by omega)).mp q) (by omega)), if_pos (show nI g < (5 : Int32) from (nI_ltI (b := 5) (by omega) (by decide)).mpr (by omega))]
          obtain ⟨τ2, ρ2, μ2, s1, s2, s3⟩ := (b2.imp (Y := X1 J g) (fun q => q.1)).step (F := F) hF hB hJ (Nat.le_refl g) h3
          rw [hc, ob1_e, cnd_F, b1, ob1_e, s1, ob2_e, nI_s, nI_s] at hL54
          have h3n : ¬ nI ofS = (3 : Int32) := fun q => h3o ((nI_i (b := 3) (by omega) (by decide)).mp q)
          rw [if_neg h3n, ob1_e, s2, ob1_e, nI_s] at hL8
          obtain ⟨bres, τ', ρ', μ', e1, e2, e3, e4⟩ := ih (ofS + 1) g (i + 1) (fuC - 1) (fuI - 1) fuO τ2 ρ2 μ2 (s3.imp (fun q => ⟨q.1, q.2.2.1⟩)) (by omega) (by omega) h3 (fun q => by
            have := (s3.2.2.2 q).2
            have e1 := this.2.1
            have e2 := this.2.2.2
            omega) (by omega) (by omega) h7
          refine ⟨bres, τ', ρ', μ', (loop_gen hL54 (by omega)).trans e1, e2, ?_, e4⟩
          unfold mK at e3 ⊢
          rw [loop_gen (a' := (nI (ofS + 1), μ2)) (by show mX4_readStage_L8 F (nI J) (nI g) (nI ofS) μ = _; exact hL8) (by omega)]
          exact e3
      | false =>
        obtain ⟨a7, a8⟩ := a5 rfl
        have hL8 : mX4_readStage_L8 F (nI J) (nI g) (nI ofS) μ = some (.inl (.inl μ12)) := by
          unfold mX4_readStage_L8
          rw [m_goodT hg, ob1_e, if_neg (show ¬ (1 : Int32) = 0 by decide), n1, ob2_e, show mX4_takeWord F μ10 14 = some (b01 false, μ12) from a3, ob2_e, if_pos (show b01 false = 0 from rfl)]
        have hmK : mK F J g fuI fuO ofS μ = mT F J g fuO μ12 := by
          unfold mK
          rw [loop_gol (b := .inl μ12) (by show mX4_readStage_L8 F (nI J) (nI g) (nI ofS) μ = _; exact hL8) (by omega), ob1_e, el1_L, ob1_e]
        rw [hmK]
        have hs := h.1.2.1
        -- the stage is written, then is looked for
        have hrow : PR T L ν (fun τ f5 f6 d o => X1 J g τ f5 f6 d o ∧ An τ J < Nn τ ∧ d (21 + 9 * J) = nI (g + 1)) b τ ρ (u2 μ12 9 (21 + 9 * J) (nI g + 1)) := a7.row hs (fun q hq => u2_o _ _ _ _ _ hq) (fun _ hx => by
          obtain ⟨⟨⟨b1, b2, b3, b4, b5, b6, b7, b8, b9, b10, b11⟩, x1, x2, x3, x4, x5, x6, x7, x8, x9, x10, x11, x12, x13, x14, x15, x16, x17, x18, x19, x20⟩, hx2⟩ := hx
          have c1 : ∀ y, y ≠ 21 + 9 * J → u2 μ12 9 (21 + 9 * J) (nI g + 1) 9 y = μ12 9 y := fun y h => u2_n _ _ _ _ _ _ (by omega)
          refine ⟨⟨⟨b1, b2, by rw [c1 _ (by omega)]; exact b3, by rw [c1 _ (by omega)]; exact b4, by rw [c1 _ (by omega)]; exact b5, by rw [c1 _ (by omega)]; exact b6, by rw [c1 _ (by omega)]; exact b7, by rw [c1 _ (by omega)]; exact b8, b9, fun k hk => (b10 k hk).same rfl rfl (fun x a b => c1 x (by have := b1.2; omega)), fun s hs => ⟨(b11 s hs).1.same (fun _ _ _ => rfl) (fun x a b => c1 x (by omega)), (b11 s hs).2⟩⟩, x1, x2, x3, by rw [c1 _ (by omega)]; exact x4, x5.same (fun _ _ _ _ _ => rfl) (fun _ _ => rfl) (Nat.le_refl _) (fun j x hj a b => c1 x (by omega)), fun j a b => by rw [c1 _ (by omega)]; exact x6 j a b, x7, x8, x9, x10, by rw [c1 _ (by omega)]; exact x11, by rw [c1 _ (by omega)]; exact x12, by rw [c1 _ (by omega)]; exact x13, by rw [c1 _ (by omega)]; exact x14, by rw [c1 _ (by omega)]; exact x15, by rw [c1 _ (by omega)]; exact x16, x17, x18, x19, x20⟩, hx2, ?_⟩
          rw [u2_s, nI_s])
        have hg31 : u2 μ12 9 (21 + 9 * J) (nI g + 1) 5 0 = 0 := by rw [u2_o _ _ _ _ 5 (by decide)]; exact hg12
        obtain ⟨rt, t1, t2, t3, t4, t5⟩ := hrow.next (F := F) hF hL
        obtain ⟨r32, μ33⟩ := rt
        have t2 : PR T L ν (fun τ f5 f6 d o => X1 J g τ f5 f6 d o ∧ An τ J < Nn τ ∧ d (21 + 9 * J) = nI (g + 1)) b τ ρ μ33 := t2
        have hg33 : μ33 5 0 = 0 := by rw [show μ33 5 = _ from t3]; exact hg31
        have t40 : μ33 4 0 = ρ 8 0 := (t4 hg31).1
        obtain ⟨xt, u1, u2'⟩ := t2.word (F := F) hF hB (w := 6) (by decide)
        obtain ⟨μ35, u3, u4, u5, u6, -⟩ := u2' hg33
        have hg35 : μ35 5 0 = 0 := by rw [u4 5 (by decide)]; exact hg33
        unfold mT
        rw [v9J2 hJ, ob1_e, t1, ob2_e, show mX4_takeWord F μ33 15 = some (b01 xt, μ35) from u3, ob2_e]
        obtain ⟨fo1, rfl⟩ : ∃ k, fuO = k + 1 := ⟨fuO - 1, by omega⟩
        cases xt with
        | false =>
          obtain ⟨u7, u8⟩ := u5 rfl
          have hL54 : mX1_readJourney_L54 F β (nI i) (nI ofS) (nI g) τ ρ = some (.inl (.inr (τ, ρ))) := by
            unfold mX1_readJourney_L54
            rw [if_neg hi40, if_pos hρ, a1, ob1_e, if_pos (show b01 false = 0 from rfl), u1, ob1_e, if_pos (show b01 false = 0 from rfl), ob1_e, cnd_F]
          rw [if_pos (show b01 false = 0 from rfl), ob1_e, cnd_F, ob1_e, L113_end (Or.inr (show b01 false = 0 from rfl))]
          exact ⟨_, τ, ρ, μ35, loop_gol hL54 (by omega), Or.inr rfl, rfl, u7.imp (fun q => ⟨g, q⟩)⟩
        | true =>
          obtain ⟨ρ41, b1, b2, b3⟩ := u6 rfl
          have hL54 : mX1_readJourney_L54 F β (nI i) (nI ofS) (nI g) τ ρ = ob1 (if nI g + 1 < (5 : Int32) then some false else some true) fun t36 => cnd t36 (ob1 (mX1_fail F β τ ρ (-4 : Int32) (ρ 8 0)) fun ρ40 => some (.inl (.inl (τ, ρ40)))) (ob1 (mX1_nextToken F β τ ρ) fun ρ41 => ob2 (mX1_readStep F β τ ρ41 (nI g + 1)) fun τ42 ρ43 => some (.inr ((nI i + (1 : Int32)), (1 : Int32), nI g + 1, τ42, ρ43))) := by
            unfold mX1_readJourney_L54
            rw [if_neg hi40, if_pos hρ, a1, ob1_e, if_pos (show b01 false = 0 from rfl), u1, ob1_e, if_neg (show ¬ b01 true = 0 by decide), ob1_e, cnd_T, ob1_e, if_pos (show b01 false = 0 from rfl), ob1_e, if_pos (show b01 false = 0 from rfl), ob1_e, if_neg (show ¬ (3 : Int32) < 1 by decide)]
          rw [if_neg (show ¬ b01 true = 0 by decide)]
          by_cases h4g : g = 4
          · subst h4g
            have hcm : Cm T L ν τ ρ μ35 := h.1.mix b2.1
            obtain ⟨ρ', μ', f1, f2, f3, f4⟩ := hcm.fail (F := F) (β := β) (by rw [hρ, hg35]) (by rw [u4 6 (by decide)]; exact t2.2.2.1) (e := -4) (o := ρ 8 0) (o' := μ33 4 0) (by decide) (fun _ => t40.symm) (X2 J) b
            rw [if_neg (show ¬ nI 4 + 1 < (5 : Int32) by decide), ob1_e, cnd_T, f1, ob1_e] at hL54
            rw [if_pos (show nI 4 + 1 = (5 : Int32) by decide), ob1_e, cnd_T, f2, ob1_e, ob1_e, L113_end (Or.inl f4)]
            exact ⟨_, τ, ρ', μ', loop_gol hL54 (by omega), Or.inl rfl, rfl, f3⟩
          · have h5n : ¬ nI (g + 1) = (5 : Int32) := fun q => h4g (by have := (nI_i (b := 5) (by omega) (by decide)).mp q; omega)
            obtain ⟨τ2, ρ2, μ2, s1, s2, s3⟩ := (b2.imp (Y := X1 J g) (fun q => q.1)).step (F := F) hF hB (g' := g + 1) hJ (by omega) (by omega)
            rw [nI_s, if_pos (show nI (g + 1) < (5 : Int32) from (nI_ltI (b := 5) (by omega) (by decide)).mpr (by omega)), ob1_e, cnd_F, b1, ob1_e, s1, ob2_e, nI_s] at hL54
            rw [nI_s, if_neg h5n, ob1_e, cnd_F, ob1_e, L113_eq hg35 (show b01 true ≠ 0 by decide), s2, ob1_e]
            obtain ⟨bres, τ', ρ', μ', e1, e2, e3, e4⟩ := ih 1 (g + 1) (i + 1) (fuC - 1) F fo1 τ2 ρ2 μ2 (s3.imp (fun q => ⟨q.1, q.2.2.1⟩)) (by omega) (by omega) (by omega) (fun q => by
              have := (s3.2.2.2 q).2
              have e1 := this.2.1
              have e2 := this.2.2.2
              omega) (by omega) (by omega) (by omega)
            exact ⟨bres, τ', ρ', μ', (loop_gen hL54 (by omega)).trans e1, e2, e3, e4⟩
    · have hρ : ρ 1 0 ≠ 0 := fun q => hg (h.2.1.symm.trans q)
      obtain ⟨μ', k1, k2⟩ := mK_bad (Y := X2 J) (F := F) hF hB h hg (g := g) (fuI := fuI) (fuO := fuO) (ofS := ofS) hJ (by omega) (by omega)
      exact ⟨_, τ, ρ, μ', loop_gol (c_L54_end hρ) (by omega), Or.inr rfl, k1, k2⟩
end RJ
