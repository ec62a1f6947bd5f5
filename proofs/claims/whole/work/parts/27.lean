/-! pure: the checksum -/
def ck (f : Nat → Int32) (k : Nat) (v : Int64) : Int64 := 31 * v + (f k).toInt64
def vA (F : Nat) (τ σ : MS) (q : Nat) : Int32 := (mX2_numberOfAll F τ σ (nI q)).getD 0
def vS (F : Nat) (τ σ : MS) (k q : Nat) : Int32 := (mX2_numberOfStock F τ σ (nI k) (nI q)).getD 0
def vJ (F : Nat) (τ σ : MS) (j q : Nat) : Int32 := (mX2_numberOfJourney F τ σ (nI j) (nI q)).getD 0
def vT (F : Nat) (τ σ : MS) (s q : Nat) : Int32 := (mX2_numberOfStep F τ σ (nI s) (nI q)).getD 0
def ckS (F : Nat) (τ σ : MS) (k : Nat) (v : Int64) : Int64 := fo (ck (vS F τ σ k)) 0 6 v
def ckT (F : Nat) (τ σ : MS) (s : Nat) (v : Int64) : Int64 := fo (ck (vT F τ σ s)) 4 3 v
def ckJ (F : Nat) (τ σ : MS) (j : Nat) (v : Int64) : Int64 := fo (ckT F τ σ) (An τ j) (En τ j - An τ j) (fo (ck (vJ F τ σ j)) 0 7 v)
def ckAll (F : Nat) (τ σ : MS) : Int64 := fo (ckJ F τ σ) 0 (Jn τ) (fo (ckS F τ σ) 0 (Sn τ) (fo (ck (vA F τ σ)) 0 10 0))
theorem i32_nle {a : Nat} {c : Int32} {b : Nat} (hc : c = nI b) (ha : a < 2 ^ 31) (hb : b < 2 ^ 31) (h : a < b) : ¬ c ≤ nI a := by subst hc; exact nle ha hb h
theorem i32_nlt {a : Nat} {c : Int32} {b : Nat} (hc : c = nI b) (ha : a < 2 ^ 31) (hb : b < 2 ^ 31) (h : a ≤ b) : ¬ c < nI a := by subst hc; exact fun q => absurd ((nI_ltI hb ha).mp q) (by omega)
section CS
variable {τ σ : MS} {w : Nat → Int32} {μ0 μ : MS} {F s j k : Nat}
theorem v_all (hI : SI τ) (h : MR τ σ w μ0 μ) (hF : 5000 ≤ F) {q : Nat} (hq : q < 10) : mX2_numberOfAll F τ σ (nI q) = some (vA F τ σ q) ∧ mX4_told F μ (nI q) = some (vA F τ σ q) := by
  obtain ⟨r, h1, h2⟩ := t_all (F := F) hI h hF hq
  unfold vA; rw [h1]; exact ⟨rfl, h2⟩
theorem v_stock (hI : SI τ) (h : MR τ σ w μ0 μ) (hF : 5000 ≤ F) {q : Nat} (hk : k < Sn τ) (hq : q < 6) : mX2_numberOfStock F τ σ (nI k) (nI q) = some (vS F τ σ k q) ∧ mX4_toldStock F μ (nI k) (nI q) = some (vS F τ σ k q) := by
  obtain ⟨r, h1, h2⟩ := t_stock (F := F) hI h hF hk hq
  unfold vS; rw [h1]; exact ⟨rfl, h2⟩
theorem v_journey (hI : SI τ) (h : MR τ σ w μ0 μ) (hF : 5000 ≤ F) {q : Nat} (hj : j < Jn τ) (hb : bd (σ 5 j) 0 5) (hq : q < 7) : mX2_numberOfJourney F τ σ (nI j) (nI q) = some (vJ F τ σ j q) ∧ mX4_toldJourney F μ (nI j) (nI q) = some (vJ F τ σ j q) := by
  obtain ⟨r, h1, h2⟩ := t_journey (F := F) hI h hF hj hb hq
  unfold vJ; rw [h1]; exact ⟨rfl, h2⟩
theorem v_step (hI : SI τ) (h : MR τ σ w μ0 μ) {q : Nat} (hs : s < Nn τ) (hq : q < 7) : mX2_numberOfStep F τ σ (nI s) (nI q) = some (vT F τ σ s q) ∧ rd (μ 8) 451 (nI (91 + 9 * s) + nI q) = some (vT F τ σ s q) := by
  obtain ⟨r, h1, h2⟩ := t_step (F := F) hI h hs hq
  unfold vT; rw [h1]; exact ⟨rfl, h2⟩
theorem i0 : (0 : Int32) = nI 0 := rfl
variable {τs : WS} {n : Nat} {pa : PA} {β : FS} {υ : MS} {ω : WS} {sid : PA}
theorem c_ck (hF : 5000 ≤ F) (hg : gW sid n 0 = some ()) (hI : SI (τs (sid 0))) (h : MR (τs (sid 0)) (ω 0) w μ0 μ) (hb : ∀ j, j < Jn (τs (sid 0)) → bd (ω 0 5 j) 0 5) : mX3_checksum F τs n pa β υ ω sid = some (ckAll F (τs (sid 0)) (ω 0)) := by
  have hS := hI.S
  have hJ := hI.J
  have hN := hI.N.2
  have l1 := loop_up (f := fun st : Int32 × Int64 => mX3_checksum_L4 F τs n pa β υ ω sid st.1 st.2) (fun _ _ => True) (ck (vA F (τs (sid 0)) (ω 0))) (fun v => v) 10 (fun q v hq _ => ⟨by
    show mX3_checksum_L4 F τs n pa β υ ω sid (nI q) v = _
    unfold mX3_checksum_L4
    rw [if_neg (i32_nle (c := 10) (b := 10) rfl (by omega) (by decide) hq), hg, ob1_e, (v_all hI h hF hq).1, ob1_e, nI_s]; rfl, trivial⟩) (fun v _ => by
    show mX3_checksum_L4 F τs n pa β υ ω sid (nI 10) v = _
    unfold mX3_checksum_L4
    rw [if_pos (by decide)]) 10 0 F 0 (by omega) (by omega) trivial
  have l2 : ∀ k, k < Sn (τs (sid 0)) → ∀ v, loopM (fun st : Int32 × Int64 => mX3_checksum_L51 F τs n (nI k) pa β υ ω sid st.1 st.2) F (nI 0, v) = some (ckS F (τs (sid 0)) (ω 0) k v) := fun k hk v => loop_up (f := fun st : Int32 × Int64 => mX3_checksum_L51 F τs n (nI k) pa β υ ω sid st.1 st.2) (fun _ _ => True) (ck (vS F (τs (sid 0)) (ω 0) k)) (fun v => v) 6 (fun q v hq _ => ⟨by
    show mX3_checksum_L51 F τs n (nI k) pa β υ ω sid (nI q) v = _
    unfold mX3_checksum_L51
    rw [if_neg (i32_nle (c := 6) (b := 6) rfl (by omega) (by decide) hq), hg, ob1_e, (v_stock hI h hF hk hq).1, ob1_e, nI_s]; rfl, trivial⟩) (fun v _ => by
    show mX3_checksum_L51 F τs n (nI k) pa β υ ω sid (nI 6) v = _
    unfold mX3_checksum_L51
    rw [if_pos (by decide)]) 6 0 F v (by omega) (by omega) trivial
  have l3 := fun v => loop_up (f := fun st : Int32 × Int64 => mX3_checksum_L34 F τs n pa β υ ω sid st.1 st.2) (fun _ _ => True) (ckS F (τs (sid 0)) (ω 0)) (fun v => v) (Sn (τs (sid 0))) (fun k v hk _ => ⟨by
    show mX3_checksum_L34 F τs n pa β υ ω sid (nI k) v = _
    unfold mX3_checksum_L34
    rw [hg, ob1_e, ob1_e, hS.1, if_neg (nle (by omega) (by omega) hk), i0, l2 k hk, ob1_e, nI_s], trivial⟩) (fun v _ => by
    show mX3_checksum_L34 F τs n pa β υ ω sid (nI (Sn (τs (sid 0)))) v = _
    unfold mX3_checksum_L34
    rw [hg, ob1_e, ob1_e, hS.1, if_pos (Int32.le_refl _)]) (Sn (τs (sid 0))) 0 F v (by omega) (by omega) trivial
  have l4 : ∀ j, j < Jn (τs (sid 0)) → ∀ v, loopM (fun st : Int32 × Int64 => mX3_sumWithJourney_L6 F τs n (nI j) pa β υ ω sid st.1 st.2) F (nI 0, v) = some (fo (ck (vJ F (τs (sid 0)) (ω 0) j)) 0 7 v) := fun j hj v => loop_up (f := fun st : Int32 × Int64 => mX3_sumWithJourney_L6 F τs n (nI j) pa β υ ω sid st.1 st.2) (fun _ _ => True) (ck (vJ F (τs (sid 0)) (ω 0) j)) (fun v => v) 7 (fun q v hq _ => ⟨by
    show mX3_sumWithJourney_L6 F τs n (nI j) pa β υ ω sid (nI q) v = _
    unfold mX3_sumWithJourney_L6
    rw [if_neg (i32_nle (c := 7) (b := 7) rfl (by omega) (by decide) hq), hg, ob1_e, (v_journey hI h hF hj (hb j hj) hq).1, ob1_e, nI_s]; rfl, trivial⟩) (fun v _ => by
    show mX3_sumWithJourney_L6 F τs n (nI j) pa β υ ω sid (nI 7) v = _
    unfold mX3_sumWithJourney_L6
    rw [if_pos (by decide)]) 7 0 F v (by omega) (by omega) trivial
  have l5 : ∀ (x : Int32) (s : Nat), s < Nn (τs (sid 0)) → ∀ v, loopM (fun st : Int32 × Int64 => mX3_sumWithJourney_L77 F τs n (nI s) x pa β υ ω sid st.1 st.2) F (nI 4, v) = some (ckT F (τs (sid 0)) (ω 0) s v) := fun x s hs v => loop_up (f := fun st : Int32 × Int64 => mX3_sumWithJourney_L77 F τs n (nI s) x pa β υ ω sid st.1 st.2) (fun _ _ => True) (ck (vT F (τs (sid 0)) (ω 0) s)) (fun v => v) 7 (fun q v hq _ => ⟨by
    show mX3_sumWithJourney_L77 F τs n (nI s) x pa β υ ω sid (nI q) v = _
    unfold mX3_sumWithJourney_L77
    rw [if_neg (i32_nle (c := 7) (b := 7) rfl (by omega) (by decide) hq), hg, ob1_e, (v_step hI h hs hq).1, ob1_e, nI_s]; rfl, trivial⟩) (fun v _ => by
    show mX3_sumWithJourney_L77 F τs n (nI s) x pa β υ ω sid (nI 7) v = _
    unfold mX3_sumWithJourney_L77
    rw [if_pos (by decide)]) 3 4 F v (by omega) (by omega) trivial
  have l6 : ∀ j, j < Jn (τs (sid 0)) → ∀ v, mX3_sumWithJourney F τs n pa β υ ω sid v (nI j) = some (ckJ F (τs (sid 0)) (ω 0) j v) := fun j hj v => by
    have hA := hI.A hj
    have := loop_up (f := fun st : Int32 × Int64 => mX3_sumWithJourney_L67 F τs n (nI (En (τs (sid 0)) j)) pa β υ ω sid st.1 st.2) (fun _ _ => True) (ckT F (τs (sid 0)) (ω 0)) (fun v => v) (En (τs (sid 0)) j) (fun s v hs _ => ⟨by
      show mX3_sumWithJourney_L67 F τs n (nI (En (τs (sid 0)) j)) pa β υ ω sid (nI s) v = _
      unfold mX3_sumWithJourney_L67
      rw [if_neg (nle (by omega) (by omega) hs), show (4 : Int32) = nI 4 from rfl, l5 _ s (hI.sN hj hs), ob1_e, nI_s], trivial⟩) (fun v _ => by
      show mX3_sumWithJourney_L67 F τs n (nI (En (τs (sid 0)) j)) pa β υ ω sid (nI (En (τs (sid 0)) j)) v = _
      unfold mX3_sumWithJourney_L67
      rw [if_pos (Int32.le_refl _)]) (En (τs (sid 0)) j - An (τs (sid 0)) j) (An (τs (sid 0)) j) F (fo (ck (vJ F (τs (sid 0)) (ω 0) j)) 0 7 v) (by omega) (by omega) trivial
    unfold mX3_sumWithJourney
    rw [i0, l4 j hj, ob1_e]
    simp only [hg, ob1_e]
    rw [rE hI hj, ob1_e, rA hI hj, ob1_e, this, ob1_e]
    rfl
  have l7 := fun v => loop_up (f := fun st : Int32 × Int64 => mX3_checksum_L90 F τs n pa β υ ω sid st.1 st.2) (fun _ _ => True) (ckJ F (τs (sid 0)) (ω 0)) (fun v => v) (Jn (τs (sid 0))) (fun j v hj _ => ⟨by
    show mX3_checksum_L90 F τs n pa β υ ω sid (nI j) v = _
    unfold mX3_checksum_L90
    rw [hg, ob1_e, ob1_e, hJ.1, if_neg (nle (by omega) (by omega) hj), l6 j hj, ob1_e, nI_s], trivial⟩) (fun v _ => by
    show mX3_checksum_L90 F τs n pa β υ ω sid (nI (Jn (τs (sid 0)))) v = _
    unfold mX3_checksum_L90
    rw [hg, ob1_e, ob1_e, hJ.1, if_pos (Int32.le_refl _)]) (Jn (τs (sid 0))) 0 F v (by omega) (by omega) trivial
  unfold mX3_checksum
  rw [i0, l1, ob1_e, l3, ob1_e, l7, ob1_e]
  rfl
theorem m_ck (hF : 5000 ≤ F) (hI : SI τ) {ν : MS} (hν : pf μ 0 0 = ν) (h : MR τ σ w ν ν) (hb : ∀ j, j < Jn τ → bd (σ 5 j) 0 5) : mX4_checksum F μ = some (ckAll F τ σ, ν) := by
  have hS := hI.S
  have hJ := hI.J
  have hN := hI.N.2
  have g1 := h.rg.2.1
  have g2 := h.rg.2.2.1
  have l1 := loop_up (f := fun st : Int32 × Int64 => mX4_checksum_L9 F ν st.1 st.2) (fun _ _ => True) (ck (vA F τ σ)) (fun v => v) 10 (fun q v hq _ => ⟨by
    show mX4_checksum_L9 F ν (nI q) v = _
    unfold mX4_checksum_L9
    rw [if_neg (i32_nle (c := 10) (b := 10) rfl (by omega) (by decide) hq), (v_all hI h hF hq).2, ob1_e, nI_s]; rfl, trivial⟩) (fun v _ => by
    show mX4_checksum_L9 F ν (nI 10) v = _
    unfold mX4_checksum_L9
    rw [if_pos (by decide)]) 10 0 F 0 (by omega) (by omega) trivial
  have l2 : ∀ k, k < Sn τ → ∀ v, loopM (fun st : Int32 × Int64 => mX4_checksum_L49 F (nI k) ν st.1 st.2) F (nI 0, v) = some (ckS F τ σ k v) := fun k hk v => loop_up (f := fun st : Int32 × Int64 => mX4_checksum_L49 F (nI k) ν st.1 st.2) (fun _ _ => True) (ck (vS F τ σ k)) (fun v => v) 6 (fun q v hq _ => ⟨by
    show mX4_checksum_L49 F (nI k) ν (nI q) v = _
    unfold mX4_checksum_L49
    rw [if_neg (i32_nle (c := 6) (b := 6) rfl (by omega) (by decide) hq), (v_stock hI h hF hk hq).2, ob1_e, nI_s]; rfl, trivial⟩) (fun v _ => by
    show mX4_checksum_L49 F (nI k) ν (nI 6) v = _
    unfold mX4_checksum_L49
    rw [if_pos (by decide)]) 6 0 F v (by omega) (by omega) trivial
  have l3 := fun v => loop_up (f := fun st : Int32 × Int64 => mX4_checksum_L36 F ν st.1 st.2) (fun _ _ => True) (ckS F τ σ) (fun v => v) (Sn τ) (fun k v hk _ => ⟨by
    show mX4_checksum_L36 F ν (nI k) v = _
    unfold mX4_checksum_L36
    rw [rG1, g1, hS.1, ob1_e, if_neg (nle (by omega) (by omega) hk), i0, l2 k hk, ob1_e, nI_s], trivial⟩) (fun v _ => by
    show mX4_checksum_L36 F ν (nI (Sn τ)) v = _
    unfold mX4_checksum_L36
    rw [rG1, g1, hS.1, ob1_e, if_pos (Int32.le_refl _)]) (Sn τ) 0 F v (by omega) (by omega) trivial
  have l4 : ∀ j, j < Jn τ → ∀ v, loopM (fun st : Int32 × Int64 => mX4_checksum_L98 F (nI j) ν st.1 st.2) F (nI 0, v) = some (fo (ck (vJ F τ σ j)) 0 7 v) := fun j hj v => loop_up (f := fun st : Int32 × Int64 => mX4_checksum_L98 F (nI j) ν st.1 st.2) (fun _ _ => True) (ck (vJ F τ σ j)) (fun v => v) 7 (fun q v hq _ => ⟨by
    show mX4_checksum_L98 F (nI j) ν (nI q) v = _
    unfold mX4_checksum_L98
    rw [if_neg (i32_nle (c := 7) (b := 7) rfl (by omega) (by decide) hq), (v_journey hI h hF hj (hb j hj) hq).2, ob1_e, nI_s]; rfl, trivial⟩) (fun v _ => by
    show mX4_checksum_L98 F (nI j) ν (nI 7) v = _
    unfold mX4_checksum_L98
    rw [if_pos (by decide)]) 7 0 F v (by omega) (by omega) trivial
  have l5 : ∀ j, j < Jn τ → ∀ i, An τ j + i < En τ j → ∀ v, loopM (fun st : Int32 × Int64 => mX4_checksum_L143 F (nI i) (nI j) ν st.1 st.2) F (nI 4, v) = some (ckT F τ σ (An τ j + i) v) := fun j hj i hi v => loop_up (f := fun st : Int32 × Int64 => mX4_checksum_L143 F (nI i) (nI j) ν st.1 st.2) (fun _ _ => True) (ck (vT F τ σ (An τ j + i))) (fun v => v) 7 (fun q v hq _ => ⟨by
    show mX4_checksum_L143 F (nI i) (nI j) ν (nI q) v = _
    unfold mX4_checksum_L143
    rw [if_neg (i32_nlt (c := 6) (b := 6) rfl (by omega) (by decide) (by omega)), h.at hI hj, ob1_e, (v_step (F := F) hI h (hI.sN hj hi) hq).2, ob1_e, nI_s]; rfl, trivial⟩) (fun v _ => by
    show mX4_checksum_L143 F (nI i) (nI j) ν (nI 7) v = _
    unfold mX4_checksum_L143
    rw [if_pos (by decide)]) 3 4 F v (by omega) (by omega) trivial
  have l6 : ∀ j, j < Jn τ → ∀ v, loopM (fun st : Int32 × Int64 => mX4_checksum_L129 F (nI j) ν st.1 st.2) F (nI 0, v) = some (fo (ckT F τ σ) (An τ j) (En τ j - An τ j) v) := fun j hj v => by
    have hA := hI.A hj
    have := loop_up (f := fun st : Int32 × Int64 => mX4_checksum_L129 F (nI j) ν st.1 st.2) (fun _ _ => True) (fun i v => ckT F τ σ (An τ j + i) v) (fun v => v) (En τ j - An τ j) (fun i v hi _ => ⟨by
      show mX4_checksum_L129 F (nI j) ν (nI i) v = _
      unfold mX4_checksum_L129
      rw [h.cnt hI hj, ob1_e, if_neg (nle (by omega) (by omega) hi), show (4 : Int32) = nI 4 from rfl, l5 j hj i (by omega), ob1_e, nI_s], trivial⟩) (fun v _ => by
      show mX4_checksum_L129 F (nI j) ν (nI (En τ j - An τ j)) v = _
      unfold mX4_checksum_L129
      rw [h.cnt hI hj, ob1_e, if_pos (Int32.le_refl _)]) (En τ j - An τ j) 0 F v (by omega) (by omega) trivial
    rw [this]
    have e := fo_sh (ckT F τ σ) (An τ j) (En τ j - An τ j) 0 v
    rw [Nat.add_zero] at e
    rw [← e]
  have l7 := fun v => loop_up (f := fun st : Int32 × Int64 => mX4_checksum_L85 F ν st.1 st.2) (fun _ _ => True) (ckJ F τ σ) (fun v => v) (Jn τ) (fun j v hj _ => ⟨by
    show mX4_checksum_L85 F ν (nI j) v = _
    unfold mX4_checksum_L85
    rw [rG2, g2, hJ.1, ob1_e, if_neg (nle (by omega) (by omega) hj), i0, l4 j hj, ob1_e, l6 j hj, ob1_e, nI_s]
    rfl, trivial⟩) (fun v _ => by
    show mX4_checksum_L85 F ν (nI (Jn τ)) v = _
    unfold mX4_checksum_L85
    rw [rG2, g2, hJ.1, ob1_e, if_pos (Int32.le_refl _)]) (Jn τ) 0 F v (by omega) (by omega) trivial
  unfold mX4_checksum
  rw [ob1_e, hν, i0, l1, ob1_e, l3, ob1_e, l7, ob1_e]
  rfl
theorem p_checksum (hF : 5000 ≤ F) {B : Int} : ag_checksum F (HI (WRB B)) (HI (WRB B)) := by
  intro τs n pa β υ ω sid μ hI
  obtain ⟨⟨hS, hR, hW⟩, hg⟩ := hI.now
  have hM := mrOf (μ := pf μ 0 0) hR
  exact ⟨_, pf μ 0 0, c_ck hF hg hS hM (fun j hj => (hW.2.1 j hj).2.1), m_ck hF hS rfl hM (fun j hj => (hW.2.1 j hj).2.1), hI.p0 _⟩
end CS
