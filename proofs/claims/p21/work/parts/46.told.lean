/-! pure: what both tell, one by one -/
def SM (τ : MS) : Prop := Sn τ ≤ 3 ∧ Jn τ ≤ 4 ∧ ∀ j, j < Jn τ → En τ j - An τ j ≤ 9
theorem outW_i {q m : Nat} (h : q < m) (hm : m < 2 ^ 31) : outW (nI q) (nI m) = false := by
  unfold outW
  have h1 : ¬ nI q < 0 := nI_nl0 (by omega)
  have h2 : nI q < nI m := (nI_ltI (by omega) hm).mpr h
  simp [h1, h2]
theorem outW_o {q m : Nat} (h : m ≤ q) (hq : q < 2 ^ 31) : outW (nI q) (nI m) = true := by
  unfold outW
  have h2 : ¬ nI q < nI m := fun z => absurd ((nI_ltI hq (by omega)).mp z) (by omega)
  simp [h2]
theorem hEl_R {X : Type} (hs : List String) (x : X) : hEl hs (some (.inr x)) = some (.inr x) := rfl
theorem hEl_L {X : Type} {hs : List String} {E : String} (h : E ∈ hs) : hEl hs (some (.inl E) : Option (String ⊕ X)) = some (.inl E) := if_pos h
theorem xE_R {X : Type} (hs : List (String × Int32)) (val : X → Int32) (x : X) : xE hs val (.inr x) = val x := rfl
theorem xE_L {X : Type} (hs : List (String × Int32)) (val : X → Int32) (E : String) : xE hs val (.inl E) = xC hs E := rfl
theorem xV_R {X Y : Type} (y : Y) (f : X → Y) (x : X) : xV y f (.inr x) = f x := rfl
theorem xV_L {X Y : Type} (y : Y) (f : X → Y) (E : String) : xV y f (.inl E) = y := rfl
/-- what the law's sum takes of a step -/
def gLw (τ σ : MS) (k p : Int32) (j s : Nat) : Int32 := if p = 3 then gOp τ σ k j s else if p = 4 then gDn τ σ k j s else gWo τ σ k s
section TL
variable {τ σ ζ κ : MS} {Φ Ψ : WS} {F s j i : Nat} {k p v : Int32} {Ns : PA}
theorem l_steps (hI : SI τ) (hN : NR τ Ns) (hF : 5000 ≤ F) : loopM (fun st : Int32 × Int32 => mX6_told_L14 F (Sn τ) (Jn τ) Ns (nI (Jn τ)) p ζ κ Φ Ψ st.1 st.2) F ((0 : Int32), (0 : Int32)) = some (τ 10 0) := by
  have hJ := hI.J
  have hNN := hI.N
  have hl := loop_up (f := fun st : Int32 × Int32 => mX6_told_L14 F (Sn τ) (Jn τ) Ns (nI (Jn τ)) p ζ κ Φ Ψ st.1 st.2) (fun k x => x = nI (Bn τ k)) (fun k _ => nI (Bn τ (k + 1))) (fun v => v) (Jn τ) (fun j v hj hv => by
    have hA := hI.A hj
    have e : v + nI (Ns j) = nI (Bn τ (j + 1)) := by
      have hB : Bn τ j = An τ j := by unfold Bn; rw [if_pos hj]
      rw [hv, hN j hj, nI_a, ← hI.B hj, hB]
      congr 1
      omega
    refine ⟨?_, rfl⟩
    show mX6_told_L14 F (Sn τ) (Jn τ) Ns (nI (Jn τ)) p ζ κ Φ Ψ (nI j) v = _
    unfold mX6_told_L14
    rw [if_neg (nle (by omega) (by omega) hj), hixn_at hj (by omega), ob1_e, e, nI_s]) (fun v _ => by
    show mX6_told_L14 F (Sn τ) (Jn τ) Ns (nI (Jn τ)) p ζ κ Φ Ψ (nI (Jn τ)) v = _
    unfold mX6_told_L14
    rw [if_pos (Int32.le_refl _)]) (Jn τ) 0 F 0 (by omega) (by omega) (by rw [hI.B0]; rfl)
  rw [show ((0 : Int32), (0 : Int32)) = (nI 0, (0 : Int32)) from rfl, hl]
  have := fo_ind (g := fun k (_ : Int32) => nI (Bn τ (k + 1))) (fun k x => x = nI (Bn τ k)) (n := Jn τ) (a := 0) (x := 0) (by rw [hI.B0]; rfl) (fun _ _ _ _ _ => rfl)
  rw [Nat.zero_add] at this
  rw [this, hNN.1]
  unfold Bn
  rw [if_neg (Nat.lt_irrefl _)]
theorem t_all (hI : SI τ) (hN : NR τ Ns) (h : LW τ σ ζ κ Φ Ψ) (hF : 5000 ≤ F) {q : Nat} (hq : q < 10) : ∃ r, mX2_numberOfAll F τ σ (nI q) = some r ∧ mX6_told F (Sn τ) (Jn τ) Ns ζ κ Φ Ψ (nI q) = some r := by
  obtain ⟨g0, g1, g2, g3⟩ := h.lg
  unfold mX2_numberOfAll mX6_told
  rw [l_steps hI hN hF, ob1_e]
  have e6 : nI 6 - (3 : Int32) = 3 := by decide
  have e7 : nI 7 - (3 : Int32) = 4 := by decide
  have e8 : nI 8 - (3 : Int32) = 5 := by decide
  rcases (show q = 0 ∨ q = 1 ∨ q = 2 ∨ q = 3 ∨ q = 4 ∨ q = 5 ∨ q = 6 ∨ q = 7 ∨ q = 8 ∨ q = 9 by omega) with rfl | rfl | rfl | rfl | rfl | rfl | rfl | rfl | rfl | rfl
  · exact ⟨σ 1 0, rfl, by rw [← g0]; rfl⟩
  · exact ⟨τ 2 0, rfl, by rw [hI.S.1]; rfl⟩
  · exact ⟨τ 5 0, rfl, by rw [hI.J.1]; rfl⟩
  · exact ⟨τ 10 0, rfl, rfl⟩
  · exact ⟨τ 0 0, rfl, by rw [← g1]; rfl⟩
  · exact ⟨τ 1 0, rfl, by rw [← g2]; rfl⟩
  · exact ⟨jin τ σ 3, by show ob1 (mX2_journeysIn F τ σ 3) _ = _; rw [c_jin hI hF]; rfl, by rw [e6, l_jin hI h hF]; rfl⟩
  · exact ⟨jin τ σ 4, by show ob1 (mX2_journeysIn F τ σ 4) _ = _; rw [c_jin hI hF]; rfl, by rw [e7, l_jin hI h hF]; rfl⟩
  · exact ⟨jin τ σ 5, by show ob1 (mX2_journeysIn F τ σ 5) _ = _; rw [c_jin hI hF]; rfl, by rw [e8, l_jin hI h hF]; rfl⟩
  · exact ⟨σ 2 0, rfl, by rw [← g3]; rfl⟩
theorem l_sumIn (hI : SI τ) (h : LW τ σ ζ κ Φ Ψ) (hj : j < Jn τ) (hF : 5000 ≤ F) (w v : Int32) (hN : NR τ Ns) : loopM (fun st : Int32 × Int32 => mX6_ofStock_L45 F (Sn τ) (Jn τ) Ns (nI (Ns j)) j w (nI (Jn τ)) k p ζ κ Φ Ψ st.1 st.2) F ((0 : Int32), v) = some (sj τ (gLw τ σ k p j) j v) := by
  have hA := hI.A hj
  have hNN := hI.N.2
  have hl := loop_up (f := fun st : Int32 × Int32 => mX6_ofStock_L45 F (Sn τ) (Jn τ) Ns (nI (Ns j)) j w (nI (Jn τ)) k p ζ κ Φ Ψ st.1 st.2) (fun _ _ => True) (fun i v => v + gLw τ σ k p j (An τ j + i)) (fun v => v) (En τ j - An τ j) (fun i v hi _ => ⟨by
    show mX6_ofStock_L45 F (Sn τ) (Jn τ) Ns (nI (Ns j)) j w (nI (Jn τ)) k p ζ κ Φ Ψ (nI i) v = _
    obtain ⟨a1, a2, a3, a4, a5, -⟩ := h.ls hj (i := i) (by omega)
    have hop := l_open (F := F) (N := En τ j - An τ j) (ψ := Ψ j) (h.lj hj)
    unfold mX6_ofStock_L45 gLw gOp gDn gWo hst
    rw [hN j hj, if_neg (nle (by omega) (by omega) hi), hixn_at hi (by omega), ob1_e, rq_4, ob1_e, ob1_e, rq_1, rq_2, a5, a2, a3, hop, (h.lj hj).2.2.1, nI_s]
    unfold tkb
    by_cases c1 : τ 12 (An τ j + i) = k
    · by_cases c2 : p = 3
      · by_cases c3 : σ 9 (An τ j + i) = 2 <;> by_cases c4 : σ 9 (An τ j + i) = 3 <;> cases c5 : ended σ j <;> simp [c1, c2, c3, c4, ob1, cnd, b01]
      · by_cases c6 : p = 4
        · by_cases c3 : σ 9 (An τ j + i) = 2 <;> by_cases c4 : σ 9 (An τ j + i) = 3 <;> by_cases c5 : σ 5 j = 3 <;> simp [c1, c6, c3, c4, c5, ob1, cnd]
        · by_cases c3 : σ 9 (An τ j + i) = 6 <;> by_cases c4 : σ 9 (An τ j + i) = 2 <;> by_cases c5 : σ 9 (An τ j + i) = 3 <;> simp [c1, c2, c6, c3, c4, c5, ob1, cnd]
    · by_cases c3 : σ 9 (An τ j + i) = 2 <;> by_cases c4 : σ 9 (An τ j + i) = 3 <;> simp [c1, c3, c4, ob1, cnd], trivial⟩) (fun v _ => by
    show mX6_ofStock_L45 F (Sn τ) (Jn τ) Ns (nI (Ns j)) j w (nI (Jn τ)) k p ζ κ Φ Ψ (nI (En τ j - An τ j)) v = _
    unfold mX6_ofStock_L45
    rw [hN j hj, if_pos (Int32.le_refl _)]) (En τ j - An τ j) 0 F v (by omega) (by omega) trivial
  refine hl.trans ?_
  unfold sj
  have := fo_sh (fun s v => v + gLw τ σ k p j s) (An τ j) (En τ j - An τ j) 0 v
  rw [Nat.add_zero] at this
  rw [← this]
theorem l_sums (hI : SI τ) (hN : NR τ Ns) (h : LW τ σ ζ κ Φ Ψ) (hF : 5000 ≤ F) : loopM (fun st : Int32 × Int32 => mX6_ofStock_L16 F (Sn τ) (Jn τ) Ns (nI (Jn τ)) k p ζ κ Φ Ψ st.1 st.2) F ((0 : Int32), (0 : Int32)) = some (sums τ (gLw τ σ k p)) := by
  have hJ := hI.J
  have hl := loop_up (f := fun st : Int32 × Int32 => mX6_ofStock_L16 F (Sn τ) (Jn τ) Ns (nI (Jn τ)) k p ζ κ Φ Ψ st.1 st.2) (fun _ _ => True) (fun j v => sj τ (gLw τ σ k p j) j v) (fun v => v) (Jn τ) (fun j v hj _ => ⟨by
    show mX6_ofStock_L16 F (Sn τ) (Jn τ) Ns (nI (Jn τ)) k p ζ κ Φ Ψ (nI j) v = _
    unfold mX6_ofStock_L16
    rw [if_neg (nle (by omega) (by omega) hj), hixn_at hj (by omega), ob1_e, l_sumIn hI h hj hF _ _ hN, ob1_e, nI_s], trivial⟩) (fun v _ => by
    show mX6_ofStock_L16 F (Sn τ) (Jn τ) Ns (nI (Jn τ)) k p ζ κ Φ Ψ (nI (Jn τ)) v = _
    unfold mX6_ofStock_L16
    rw [if_pos (Int32.le_refl _)]) (Jn τ) 0 F 0 (by omega) (by omega) trivial
  rw [show ((0 : Int32), (0 : Int32)) = (nI 0, (0 : Int32)) from rfl, hl]
  rfl
theorem t_stock (hI : SI τ) (hN : NR τ Ns) (h : LW τ σ ζ κ Φ Ψ) (hF : 5000 ≤ F) {q k : Nat} (hk : k < Sn τ) (hq : q < 6) : ∃ r, mX2_numberOfStock F τ σ (nI k) (nI q) = some r ∧ mX6_ofStock F (Sn τ) (Jn τ) Ns ζ κ Φ Ψ (nI k) (nI q) = some r := by
  obtain ⟨g1, g2⟩ := h.lk hk
  have hS := hI.S.2
  unfold mX2_numberOfStock mX6_ofStock
  rw [l_sums hI hN h hF, ob1_e, hixn_at hk (by omega), l_holders hI hN h hF]
  rcases (show q = 0 ∨ q = 1 ∨ q = 2 ∨ q = 3 ∨ q = 4 ∨ q = 5 by omega) with rfl | rfl | rfl | rfl | rfl | rfl
  · exact ⟨σ 3 k, by show ob1 (rd (σ 3) 6 (nI k)) _ = _; rw [r6 hI hk]; rfl, by rw [← g1]; rfl⟩
  · exact ⟨τ 4 k, by show ob1 (rd (τ 4) 6 (nI k)) _ = _; rw [r6 hI hk]; rfl, by rw [← g2]; rfl⟩
  · exact ⟨holders τ σ (nI k), by show ob1 (mX2_holdersOf F τ σ (nI k)) _ = _; rw [c_holders hI hF]; rfl, rfl⟩
  · exact ⟨sums τ (gOp τ σ (nI k)), by show ob1 (mX2_amountInOpenJourneys F τ σ (nI k)) _ = _; rw [c_open hI hF]; rfl, rfl⟩
  · exact ⟨sums τ (gDn τ σ (nI k)), by show ob1 (mX2_amountInDoneJourneys F τ σ (nI k)) _ = _; rw [c_done hI hF]; rfl, rfl⟩
  · exact ⟨sums τ (fun _ => gWo τ σ (nI k)), by show ob1 (mX2_amountWrittenOff F τ σ (nI k)) _ = _; rw [c_woff hI hF]; rfl, rfl⟩
theorem t_journey (hI : SI τ) (hN : NR τ Ns) (h : LW τ σ ζ κ Φ Ψ) (hF : 5000 ≤ F) {q : Nat} (hj : j < Jn τ) (hb : bd (σ 5 j) 0 5) (hq : q < 7) : ∃ r, mX2_numberOfJourney F τ σ (nI j) (nI q) = some r ∧ mX6_ofTrip F (Sn τ) (Jn τ) Ns ζ κ Φ Ψ (nI j) (nI q) = some r := by
  obtain ⟨a1, a2, a3, a4, a5, a6, a7, a8⟩ := h.lj hj
  have hJ := hI.J.2
  unfold mX2_numberOfJourney mX6_ofTrip
  rw [hixn_at hj (by omega), ob1_e, hN j hj, l_owes hI (h.lj hj) (h.lt hj) hj hF]
  rcases (show q = 0 ∨ q = 1 ∨ q = 2 ∨ q = 3 ∨ q = 4 ∨ q = 5 ∨ q = 6 by omega) with rfl | rfl | rfl | rfl | rfl | rfl | rfl
  · exact ⟨σ 5 j, by show ob1 (rd (σ 5) 8 (nI j)) _ = _; rw [r8 hI hj]; rfl, by rw [← a3]; rfl⟩
  · exact ⟨τ 6 j, by show ob1 (rd (τ 6) 8 (nI j)) _ = _; rw [r8 hI hj]; rfl, by rw [← a1]; rfl⟩
  · exact ⟨τ 7 j, by show ob1 (rd (τ 7) 8 (nI j)) _ = _; rw [r8 hI hj]; rfl, by rw [← a2]; rfl⟩
  · exact ⟨nI (En τ j - An τ j), by show ob1 (mX0_stepsOf F τ (nI j)) _ = _; rw [c_stepsOf hI hj]; rfl, rfl⟩
  · refine ⟨if σ 5 j = 1 then σ 6 j else -1, ?_, ?_⟩
    · show ob1 (rd (σ 5) 8 (nI j)) (fun x10 => ob1 (if x10 = (1 : Int32) then ob1 (rd (σ 6) 8 (nI j)) fun x15 => some x15 else some (-1 : Int32)) fun v11 => some v11) = _
      rw [r8 hI hj, r8 hI hj, ob1_e, ob1_e]
      by_cases q : σ 5 j = 1 <;> simp [q, ob1]
    · have : Φ j 3 0 = if σ 5 j = 1 then σ 6 j else -1 := by
        by_cases q : σ 5 j = 1
        · rw [a4 q, if_pos q]
        · rw [a5 q, if_neg q]
      rw [← this]; rfl
  · refine ⟨if (3 : Int32) ≤ σ 5 j then σ 7 j else -1, ?_, ?_⟩
    · show ob1 (mX2_rests F τ σ (nI j)) (fun r17 => ob1 (if r17 = 0 then some (-1 : Int32) else ob1 (rd (σ 7) 8 (nI j)) fun x23 => some x23) fun v19 => some v19) = _
      rw [c_rests hI hj hb, r8 hI hj, ob1_e, ob1_e]
      by_cases q : (3 : Int32) ≤ σ 5 j <;> simp [q, ob1, b01]
    · have : Φ j 4 0 = if (3 : Int32) ≤ σ 5 j then σ 7 j else -1 := by
        by_cases q : (3 : Int32) ≤ σ 5 j
        · rw [a6 q, if_pos q]
        · rw [a7 q, if_neg q]
      rw [← this]; rfl
  · exact ⟨owes τ σ j, by show ob1 (mX2_amountOwed F τ σ (nI j)) _ = _; rw [c_owes hI hj hF]; rfl, rfl⟩
theorem t_step (hI : SI τ) (h : LW τ σ ζ κ Φ Ψ) (hj : j < Jn τ) (hi : An τ j + i < En τ j) {q : Nat} (hq : q < 7) : ∃ r, mX2_numberOfStep F τ σ (nI (An τ j + i)) (nI q) = some r ∧ rd (Ψ j i) 9 (nI q) = some r := by
  obtain ⟨a1, a2, a3, a4, a5, a6, a7, a8, a9, a10⟩ := h.ls hj hi
  have hs := hI.sN hj hi
  unfold mX2_numberOfStep
  rw [rd_at (show q < 9 by omega) (by decide)]
  rcases (show q = 0 ∨ q = 1 ∨ q = 2 ∨ q = 3 ∨ q = 4 ∨ q = 5 ∨ q = 6 by omega) with rfl | rfl | rfl | rfl | rfl | rfl | rfl
  · exact ⟨τ 11 (An τ j + i), by show ob1 (rd (τ 11) 40 (nI _)) _ = _; rw [r40 hI hs]; rfl, by rw [a1]⟩
  · exact ⟨τ 12 (An τ j + i), by show ob1 (rd (τ 12) 40 (nI _)) _ = _; rw [r40 hI hs]; rfl, by rw [a2]⟩
  · exact ⟨τ 13 (An τ j + i), by show ob1 (rd (τ 13) 40 (nI _)) _ = _; rw [r40 hI hs]; rfl, by rw [a3]⟩
  · exact ⟨τ 14 (An τ j + i), by show ob1 (rd (τ 14) 40 (nI _)) _ = _; rw [r40 hI hs]; rfl, by rw [a4]⟩
  · exact ⟨σ 9 (An τ j + i), by show ob1 (rd (σ 9) 40 (nI _)) _ = _; rw [r40 hI hs]; rfl, by rw [a5]⟩
  · exact ⟨σ 10 (An τ j + i), by show ob1 (rd (σ 10) 40 (nI _)) _ = _; rw [r40 hI hs]; rfl, by rw [a6]⟩
  · exact ⟨σ 11 (An τ j + i), by show ob1 (rd (σ 11) 40 (nI _)) _ = _; rw [r40 hI hs]; rfl, by rw [a7]⟩
theorem v_all (hI : SI τ) (hN : NR τ Ns) (h : LW τ σ ζ κ Φ Ψ) (hF : 5000 ≤ F) {q : Nat} (hq : q < 10) : mX2_numberOfAll F τ σ (nI q) = some (vA F τ σ q) ∧ mX6_told F (Sn τ) (Jn τ) Ns ζ κ Φ Ψ (nI q) = some (vA F τ σ q) := by
  obtain ⟨r, h1, h2⟩ := t_all (F := F) hI hN h hF hq
  unfold vA; rw [h1]; exact ⟨rfl, h2⟩
theorem v_stock (hI : SI τ) (hN : NR τ Ns) (h : LW τ σ ζ κ Φ Ψ) (hF : 5000 ≤ F) {q k : Nat} (hk : k < Sn τ) (hq : q < 6) : mX2_numberOfStock F τ σ (nI k) (nI q) = some (vS F τ σ k q) ∧ mX6_ofStock F (Sn τ) (Jn τ) Ns ζ κ Φ Ψ (nI k) (nI q) = some (vS F τ σ k q) := by
  obtain ⟨r, h1, h2⟩ := t_stock (F := F) hI hN h hF hk hq
  unfold vS; rw [h1]; exact ⟨rfl, h2⟩
theorem v_journey (hI : SI τ) (hN : NR τ Ns) (h : LW τ σ ζ κ Φ Ψ) (hF : 5000 ≤ F) {q : Nat} (hj : j < Jn τ) (hb : bd (σ 5 j) 0 5) (hq : q < 7) : mX2_numberOfJourney F τ σ (nI j) (nI q) = some (vJ F τ σ j q) ∧ mX6_ofTrip F (Sn τ) (Jn τ) Ns ζ κ Φ Ψ (nI j) (nI q) = some (vJ F τ σ j q) := by
  obtain ⟨r, h1, h2⟩ := t_journey (F := F) hI hN h hF hj hb hq
  unfold vJ; rw [h1]; exact ⟨rfl, h2⟩
theorem v_step (hI : SI τ) (h : LW τ σ ζ κ Φ Ψ) (hj : j < Jn τ) (hi : An τ j + i < En τ j) {q : Nat} (hq : q < 7) : mX2_numberOfStep F τ σ (nI (An τ j + i)) (nI q) = some (vT F τ σ (An τ j + i) q) ∧ rd (Ψ j i) 9 (nI q) = some (vT F τ σ (An τ j + i) q) := by
  obtain ⟨r, h1, h2⟩ := t_step (F := F) hI h hj hi hq
  unfold vT; rw [h1]; exact ⟨rfl, h2⟩
end TL
