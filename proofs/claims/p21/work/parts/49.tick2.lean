/-! pure: the law's journeys go on, go back; its tick, whole -/
theorem over_P {τ σ : MS} {j : Nat} : over τ σ j = overP τ σ j (σ 6 j) := rfl
theorem nI_le0 {c : Nat} (h : c < 2 ^ 31) : (nI c ≤ 0) ↔ c = 0 := by
  have e0 : (0 : Int32).toInt = 0 := rfl
  rw [leI, nI_toInt h, e0]
  omega
section LU
variable {τ σ ζ κ : MS} {Φ Ψ : WS} {F s j i k : Nat} {p v : Int32} {Ns : PA} {B T : Int}
theorem l_goes (hI : SI τ) (hN : NR τ Ns) (hB : B ≤ 2147480000) (h : LW τ σ ζ κ Φ Ψ) (hS : LSp τ σ j) (hJ : LJ τ σ j) (hV : LV B τ σ) (hR : RI τ σ) (h0 : 0 ≤ (σ 1 0).toInt) (hj : j < Jn τ) (h1 : σ 5 j = 1) (hF : 5000 ≤ F) : ok (mX6_goes F (Sn τ) (Jn τ) Ns ζ κ Φ Ψ j) (fun r => LW τ (moveF τ j σ) ζ r.1 r.2.1 r.2.2) := by
  have hA := hI.A hj
  have hNN := hI.N.2
  obtain ⟨p, p1, p2⟩ := hJ.2.1 h1
  have hC := hI.C hj
  have hst := Inv.start (j := j) hS hV h0
  have hinv := hst.fo (g := mvF τ j) (fun s x a b c => c.mv hI hj hB a b) (En τ j - An τ j) (Nat.le_refl _)
  have e5 : mvsF τ j σ 5 j = 1 := (hinv.2.2.2.2 5 (by decide) (by decide)).trans h1
  have e6 : mvsF τ j σ 6 j = nI p := (hinv.2.2.2.2 6 (by decide) (by decide)).trans p1
  have ep : Φ j 3 0 = nI p := by rw [(h.lj hj).2.2.2.1 h1, p1]
  obtain ⟨⟨κ1, Ψ1⟩, l1, r1⟩ := l_moves (F := F) hI hN hB h hst hR hj h1 p1 hF
  have r1 : LW τ (mvsF τ j σ) ζ κ1 Φ Ψ1 := r1
  unfold mX6_goes moveF
  rw [gLt_t hj, ob1_e, hN j hj, ep, l1, ob2_e, l_count hI (r1.lt hj) hj hF, ob1_e]
  have es : ∀ v, exB (fun s => decide (τ 11 s = nI p) && decide (mvsF τ j σ 9 s = v)) (An τ j) (En τ j - An τ j) = stHas τ (mvsF τ j σ) j v := fun v => by unfold stHas prs; rw [e6]
  have hc := ctN_0 (fun s => decide (τ 11 s = nI p) && decide (mvsF τ j σ 9 s = 4)) (En τ j - An τ j) (An τ j)
  have hcl := ctN_le (fun s => decide (τ 11 s = nI p) && decide (mvsF τ j σ 9 s = 4)) (En τ j - An τ j) (An τ j)
  rw [es] at hc
  have hv : (if nI (ctN (fun s => decide (τ 11 s = nI p) && decide (mvsF τ j σ 9 s = 4)) (An τ j) (En τ j - An τ j)) ≤ 0 then some (0 : Int32) else some (1 : Int32)) = some (b01 (stHas τ (mvsF τ j σ) j 4)) := by
    cases hf : stHas τ (mvsF τ j σ) j 4 with
    | true => rw [if_neg (fun q => by rw [nI_le0 (by omega)] at q; rw [hc.mp q] at hf; cases hf)]; rfl
    | false => rw [if_pos ((nI_le0 (by omega)).mpr (hc.mpr hf))]; rfl
  rw [hv, ob1_e]
  generalize mvsF τ j σ = σ1 at e5 e6 r1
  generalize stHas τ σ1 j 4 = f
  obtain ⟨Ψ2, l2, r2⟩ := l_withs (F := F) hI hN r1 hj e6 f hF
  have g5 : (if f then withF τ j σ1 else σ1) 5 j = 1 := by
    cases f
    · exact e5
    · exact (fo_keep (fun x : MS => x 5 j) (fun s x => wd_j (by decide)) _ _ σ1).trans e5
  have g6 : (if f then withF τ j σ1 else σ1) 6 j = nI p := by
    cases f
    · exact e6
    · exact (fo_keep (fun x : MS => x 6 j) (fun s x => wd_j (by decide)) _ _ σ1).trans e6
  rw [l2, ob1_e]
  generalize (if f = true then withF τ j σ1 else σ1) = σ2 at r2 g5 g6 ⊢
  rw [l_fin hI (r2.lt hj) hj hF, ob1_e, l_count hI (r2.lt hj) hj hF]
  have hc2 := ctN_0 (fun s => decide (τ 11 s = nI p) && decide (σ2 9 s = 2)) (En τ j - An τ j) (An τ j)
  have hcl2 := ctN_le (fun s => decide (τ 11 s = nI p) && decide (σ2 9 s = 2)) (En τ j - An τ j) (An τ j)
  rw [show exB (fun s => decide (τ 11 s = nI p) && decide (σ2 9 s = 2)) (An τ j) (En τ j - An τ j) = stHas τ σ2 j 2 by unfold stHas prs; rw [g6]] at hc2
  unfold endF
  rw [over_P, g6]
  cases ho : overP τ σ2 j (nI p) with
  | false =>
    rw [if_pos (show b01 false = 0 from rfl), if_neg (show ¬ false = true by decide)]
    cases f with
    | false =>
      rw [if_pos (show b01 false = 0 from rfl), ob1_e, cnd_F, ob2_e, if_neg (by simp)]
      exact ok_some r2
    | true =>
      rw [if_neg (show ¬ b01 true = 0 by decide), ob1_e]
      cases hs2 : stHas τ σ2 j 2 with
      | false =>
        rw [if_pos (show nI _ = 0 from (nI_i (b := 0) (by omega) (by decide)).mpr (hc2.mpr hs2)), ob1_e, cnd_T, if_pos (by simp)]
        unfold mX5_goesBack
        simp only [ob1_e, ob2_e]
        exact ok_some (r2.undo hj)
      | true =>
        rw [if_neg (fun q => by rw [show (0 : Int32) = nI 0 from rfl, nI_i (by omega) (by decide)] at q; rw [hc2.mp q] at hs2; cases hs2), ob1_e, cnd_F, ob2_e, if_neg (by simp)]
        exact ok_some r2
  | true =>
    rw [if_neg (show ¬ b01 true = 0 by decide), if_pos (rfl : true = true), (h.lj hj).2.1]
    unfold entF
    by_cases hq : nI p + 1 < τ 7 j
    · rw [if_pos hq, if_neg (Int32.not_le.mpr hq)]
      obtain ⟨⟨φ3, ψ3⟩, l3, r3, r4⟩ := l_opens (F := F) (φ := Φ j) (Φ0 := Φ) (p := nI p + 1) hI (r2.pres (v := nI p + 1) hj g5) hj (u2_s _ _ _ _) hF
      rw [l3]
      simp only [ob1_e, ob2_e]
      have r3 : φ3 = pf (Φ j) 3 (nI p + 1) := r3
      subst r3
      exact ok_some r4
    · rw [if_neg hq, if_pos (Int32.not_lt.mp hq)]
      unfold mX5_rests restF
      simp only [ob1_e, ob2_e]
      rw [← r2.lg.1]
      exact ok_some (r2.rest hj (by decide) (by decide) (by decide))
theorem l_undoes (hI : SI τ) (hN : NR τ Ns) (h : LW τ σ ζ κ Φ Ψ) (hj : j < Jn τ) (hi : An τ j + i < En τ j) : ok (mX6_undoes F (Sn τ) (Jn τ) Ns ζ κ Φ Ψ j i) (fun r => LW τ (u2 (u2 σ 3 (Kn τ (An τ j + i)) (σ 3 (Kn τ (An τ j + i)) + τ 13 (An τ j + i))) 9 (An τ j + i) 5) ζ r.1 Φ r.2) := by
  have hsN := hI.sN hj hi
  have hK := hI.K hsN
  have hS6 := hI.S.2
  obtain ⟨a1, a2, a3, a4, a5, a6, a7, a8, a9, a10⟩ := h.ls hj hi
  obtain ⟨k1, k2⟩ := h.lk hK.2.1
  unfold mX6_undoes
  rw [gLt_t hj, ob1_e, gLt_t (show i < Ns j by rw [hN j hj]; omega), ob1_e, rq_1, ob1_e, a2, hK.1, hixn_at hK.2.1 (by omega), ob1_e, rk_0, ob1_e, rq_2, ob1_e, wk_0, ob1_e, wq_4, ob1_e, ob1_e, k1, a3]
  exact ok_some ((h.level hK.2.1).state hI hj hi (by decide) (by decide))
theorem l_back (hI : SI τ) (hN : NR τ Ns) (h : LW τ σ ζ κ Φ Ψ) (hS : LSp τ σ j) (hj : j < Jn τ) (h5 : σ 5 j = 2) (hF : 5000 ≤ F) : ok (mX6_back F (Sn τ) (Jn τ) Ns ζ κ Φ Ψ j) (fun r => LW τ (undoF τ j σ) r.1 r.2.1 r.2.2.1 r.2.2.2) := by
  have hA := hI.A hj
  have hNN := hI.N.2
  unfold mX6_back undoF
  rw [gLt_t hj, ob1_e, hN j hj, l_last hI (h.lt hj) hj hF, ob1_e]
  cases hd : lsd τ σ j 0 with
  | none =>
    rw [if_neg (show ¬ (0 : Int32) ≤ oI ((none : Option Nat).map (fun s => s - An τ j)) from by show ¬ (0 : Int32) ≤ -1; decide)]
    unfold mX5_rests restF
    simp only [ob1_e]
    rw [← h.lg.1]
    exact ok_some (h.rest hj (by decide) (by decide) (by decide))
  | some s =>
    obtain ⟨h1, h2, h3⟩ := lsd_in hd
    obtain ⟨i, rfl⟩ : ∃ i, s = An τ j + i := ⟨s - An τ j, by omega⟩
    have ei : oI ((some (An τ j + i)).map (fun s => s - An τ j)) = nI i := by
      show nI (An τ j + i - An τ j) = nI i
      rw [Nat.add_sub_cancel_left]
    have h09 : (0 : Int32) ≤ nI i := (nI_leI (a := 0) (by decide) (by omega)).mpr (Nat.zero_le _)
    obtain ⟨a1, a2, a3, a4, a5, a6, a7, a8, a9, a10⟩ := h.ls hj h2
    rw [ei, if_pos h09, ob1_e, hixn_at (show i < En τ j - An τ j by omega) (by omega), ob1_e, rq_5, ob1_e, a6]
    show ok _ (fun r : MS × MS × WS × WS => LW τ (if σ 10 (An τ j + i) ≤ 0 then _ else _) r.1 r.2.1 r.2.2.1 r.2.2.2)
    have hb := (hS _ h1 h2).1
    have hz : σ 10 (An τ j + i) = 0 ↔ σ 10 (An τ j + i) ≤ 0 := by
      have e0 : (0 : Int32).toInt = 0 := rfl
      rw [eqI, leI, e0]; have := hb.1; omega
    by_cases h4 : σ 10 (An τ j + i) ≤ 0
    · rw [if_pos (hz.mpr h4), if_pos h4]
      obtain ⟨⟨κ1, Ψ1⟩, l1, r1⟩ := l_undoes (F := F) hI hN h hj h2
      rw [l1]
      simp only [ob1_e, ob2_e]
      exact ok_some (LW.uf (v := 0) r1 hj)
    · rw [if_neg (fun q => h4 (hz.mp q)), if_neg h4, ob1_e, wq_5, ob1_e]
      simp only [ob1_e]
      have e5 : Φ j 5 0 = σ 8 j := (h.lj hj).2.2.2.2.2.2.2 h5
      have hm : LW τ (ufF j (An τ j + i) σ) (pf ζ 3 (ζ 3 0 + 1)) κ (va_up Φ j (pf (Φ j) 5 (Φ j 5 0 + 1))) (va_up Ψ j (u2 (Ψ j) i 5 (σ 10 (An τ j + i) - 1))) := by
        rw [h.lg.2.2.2, e5]
        exact ((h.fls hI hj h2).fail).uf hj
      have e6 : va_up Φ j (pf (Φ j) 5 (Φ j 5 0 + 1)) j 5 0 = σ 8 j + 1 := by rw [va_up_self, pf_at, if_pos rfl, e5]
      rw [e6, hm.lg.2.2.1]
      by_cases h6 : σ 8 j + 1 < τ 1 0
      · rw [if_pos h6, if_pos h6, ob1_e]
        exact ok_some hm
      · rw [if_neg h6, if_neg h6]
        unfold mX5_rests restF
        simp only [ob1_e]
        rw [← hm.lg.1]
        exact ok_some (hm.rest hj (by decide) (by decide) (by decide))
theorem nar_1 : vp_nar .boolean 1 = 1 := by decide
theorem nar_0 : vp_nar .boolean 0 = 0 := by decide
theorem l_ph1 (hI : SI τ) (hN : NR τ Ns) (h : LW τ σ ζ κ Φ Ψ) (hF : 5000 ≤ F) (bo : FS) : ok (loopM (fun st : Int32 × WS × WS × FS => mX6_tick_L10 F (Sn τ) (Jn τ) Ns ζ κ st.1 st.2.1 st.2.2.1 st.2.2.2) F ((0 : Int32), Φ, Ψ, bo)) (fun r => LW τ (fo (ph1 τ) 0 (Jn τ) σ) ζ κ r.1 r.2.1 ∧ ∀ j, j < Jn τ → r.2.2 j = b01 (decide (σ 5 j = 2))) := by
  have hJ := hI.J
  refine loop_rel (f := fun st : Int32 × WS × WS × FS => mX6_tick_L10 F (Sn τ) (Jn τ) Ns ζ κ st.1 st.2.1 st.2.2.1 st.2.2.2) (fun k x => LW τ (fo (ph1 τ) 0 k σ) ζ κ x.1 x.2.1 ∧ ∀ j, j < k → x.2.2 j = b01 (decide (σ 5 j = 2))) (Jn τ) (fun k x hk hR => ?_) (fun x hR => ?_) (Jn τ) 0 F (Φ, Ψ, bo) (by omega) (by omega) ⟨h, fun j hj => absurd hj (by omega)⟩
  · obtain ⟨Φ1, Ψ1, b1⟩ := x
    obtain ⟨h, hb⟩ := hR
    show ok (mX6_tick_L10 F (Sn τ) (Jn τ) Ns ζ κ (nI k) Φ1 Ψ1 b1) _
    have h : LW τ (fo (ph1 τ) 0 k σ) ζ κ Φ1 Ψ1 := h
    have hb : ∀ j, j < k → b1 j = b01 (decide (σ 5 j = 2)) := hb
    have e5 : fo (ph1 τ) 0 k σ 5 k = σ 5 k := fo1_5 k 0 σ (by omega)
    have e := fo_end (ph1 τ) k 0 σ
    rw [Nat.zero_add] at e
    rw [e]
    generalize fo (ph1 τ) 0 k σ = σ1 at h e5 ⊢
    have hb' : ∀ j, j < k + 1 → upd b1 k (b01 (decide (σ 5 k = 2))) j = b01 (decide (σ 5 j = 2)) := fun j hj => by
      unfold upd
      by_cases q : j = k
      · rw [if_pos q, q]
      · rw [if_neg q]; exact hb j (by omega)
    obtain ⟨j1, j2, j3, -⟩ := h.lj hk
    have hw : (if σ 5 k = (2 : Int32) then some (1 : Int32) else some (0 : Int32)) = some (b01 (decide (σ 5 k = 2))) := by
      by_cases q : σ 5 k = 2 <;> simp [q, b01]
    have hn : vp_nar .boolean (b01 (decide (σ 5 k = 2))) = b01 (decide (σ 5 k = 2)) := by
      cases decide (σ 5 k = 2)
      · exact nar_0
      · exact nar_1
    unfold mX6_tick_L10
    rw [if_neg (nle (by omega) (by omega) hk), hixn_at hk (by omega), ob1_e, j3, e5, hw, ob1_e, wr_at hk (by omega), ob1_e, hn, j1, h.lg.1]
    unfold ph1
    rw [e5]
    by_cases h0 : σ 5 k = 0
    · have h2 : ¬ σ 5 k = 2 := by rw [h0]; decide
      rw [if_neg h2, if_pos h0]
      by_cases h3 : τ 6 k = σ1 1 0
      · rw [if_pos h3, if_pos ⟨h0, h3⟩, ob1_e, cnd_T, ob1_e, ob1_e, va_up_self, hN k hk]
        have hC := hI.C hk
        have hf := h.forw0 (v := 0) hk (e5.trans h0)
        obtain ⟨⟨φ3, ψ3⟩, l3, r3, r4⟩ := l_opens (F := F) (φ := pf (Φ1 k) 2 1) (Φ0 := Φ1) (p := 0) hI hf hk (u2_s _ _ _ _) hF
        have r3 : φ3 = pf (pf (Φ1 k) 2 1) 3 0 := r3
        subst r3
        unfold entF
        rw [l3, if_pos (by rw [hC.1]; exact (nI_ltI (a := 0) (by decide) (by omega)).mpr (by omega))]
        simp only [ob1_e, ob2_e]
        rw [va_uu, nI_s]
        exact ok_some ⟨_, rfl, r4, hb'⟩
      · rw [if_neg h3, if_neg (fun q => h3 q.2), ob1_e, cnd_F, ob2_e, nI_s]
        exact ok_some ⟨_, rfl, h, hb'⟩
    · rw [if_neg h0, ob1_e, cnd_F, ob2_e, nI_s]
      have hs : (if σ 5 k = 2 then σ1 else if σ 5 k = 0 ∧ τ 6 k = σ1 1 0 then entF τ k 0 (u2 σ1 5 k 1) else σ1) = σ1 := by
        split
        · rfl
        · rw [if_neg (fun q => h0 q.1)]
      rw [hs]
      exact ok_some ⟨_, rfl, h, hb'⟩
  · obtain ⟨Φ1, Ψ1, b1⟩ := x
    show ok (mX6_tick_L10 F (Sn τ) (Jn τ) Ns ζ κ (nI (Jn τ)) Φ1 Ψ1 b1) _
    unfold mX6_tick_L10
    rw [if_pos (Int32.le_refl _)]
    exact ok_some ⟨_, rfl, hR⟩
theorem l_ph2 (hI : SI τ) (hN : NR τ Ns) (hB : B ≤ 2147480000) (hW : WI B T τ σ) (hR : RI τ σ) (h : LW τ σ ζ κ Φ Ψ) (hF : 5000 ≤ F) (bo : FS) : ok (loopM (fun st : Int32 × MS × WS × WS => mX6_tick_L87 F (Sn τ) (Jn τ) Ns (nI (Jn τ)) ζ bo st.1 st.2.1 st.2.2.1 st.2.2.2) F ((0 : Int32), κ, Φ, Ψ)) (fun r => LW τ (fo (ph2 τ) 0 (Jn τ) σ) ζ r.1 r.2.1 r.2.2) := by
  have hJ := hI.J
  refine loop_rel (f := fun st : Int32 × MS × WS × WS => mX6_tick_L87 F (Sn τ) (Jn τ) Ns (nI (Jn τ)) ζ bo st.1 st.2.1 st.2.2.1 st.2.2.2) (fun k x => LW τ (fo (ph2 τ) 0 k σ) ζ x.1 x.2.1 x.2.2) (Jn τ) (fun k x hk h => ?_) (fun x h => ?_) (Jn τ) 0 F (κ, Φ, Ψ) (by omega) (by omega) h
  · obtain ⟨κ1, Φ1, Ψ1⟩ := x
    show ok (mX6_tick_L87 F (Sn τ) (Jn τ) Ns (nI (Jn τ)) ζ bo (nI k) κ1 Φ1 Ψ1) _
    have h : LW τ (fo (ph2 τ) 0 k σ) ζ κ1 Φ1 Ψ1 := h
    have e := fo_end (ph2 τ) k 0 σ
    rw [Nat.zero_add] at e
    rw [e]
    have hW1 := (fo2_inv (k := k) hI hB hW (by omega)).1
    have hR1 := RI_f2 (k := k) hI (by omega) hR
    generalize fo (ph2 τ) 0 k σ = σ1 at h hW1 hR1 ⊢
    unfold mX6_tick_L87 ph2
    rw [if_neg (nle (by omega) (by omega) hk), hixn_at hk (by omega), ob1_e, (h.lj hk).2.2.1]
    by_cases h1 : σ1 5 k = 1
    · obtain ⟨hS, hL⟩ := hW1.2.1 k hk
      obtain ⟨⟨κ2, Φ2, Ψ2⟩, e1, e2⟩ := l_goes (F := F) hI hN hB h hS hL hW1.1 hR1 hW1.t0 hk h1 hF
      rw [if_pos h1, if_pos h1, e1]
      simp only [ob3_e, nI_s]
      exact ok_some ⟨_, rfl, e2⟩
    · rw [if_neg h1, if_neg h1]
      simp only [ob3_e, nI_s]
      exact ok_some ⟨_, rfl, h⟩
  · obtain ⟨κ1, Φ1, Ψ1⟩ := x
    show ok (mX6_tick_L87 F (Sn τ) (Jn τ) Ns (nI (Jn τ)) ζ bo (nI (Jn τ)) κ1 Φ1 Ψ1) _
    unfold mX6_tick_L87
    rw [if_pos (Int32.le_refl _)]
    exact ok_some ⟨_, rfl, h⟩
theorem ob4_e' {α β δ ε γ : Type} (x : α) (y : β) (z : δ) (t : ε) (f : α → β → δ → ε → Option γ) : ob4 (some (x, y, z, t)) f = f x y z t := rfl
theorem l_ph3 {w0 : Nat → Int32} (hI : SI τ) (hN : NR τ Ns) (hB : B ≤ 2147400000) (hW : WI B T τ σ) (hw : ∀ i, w0 i = 2 → σ 5 i = 2) (h : LW τ σ ζ κ Φ Ψ) (hF : 5000 ≤ F) {bo : FS} (hb : ∀ j, j < Jn τ → bo j = b01 (decide (w0 j = 2))) : ok (loopM (fun st : Int32 × MS × MS × WS × WS => mX6_tick_L122 F (Sn τ) (Jn τ) Ns bo st.1 st.2.1 st.2.2.1 st.2.2.2.1 st.2.2.2.2) F ((0 : Int32), ζ, κ, Φ, Ψ)) (fun r => LW τ (fo (ph3 τ w0) 0 (Jn τ) σ) r.1 r.2.1 r.2.2.1 r.2.2.2) := by
  have hJ := hI.J
  refine loop_rel (f := fun st : Int32 × MS × MS × WS × WS => mX6_tick_L122 F (Sn τ) (Jn τ) Ns bo st.1 st.2.1 st.2.2.1 st.2.2.2.1 st.2.2.2.2) (fun k x => LW τ (fo (ph3 τ w0) 0 k σ) x.1 x.2.1 x.2.2.1 x.2.2.2) (Jn τ) (fun k x hk h => ?_) (fun x h => ?_) (Jn τ) 0 F (ζ, κ, Φ, Ψ) (by omega) (by omega) h
  · obtain ⟨ζ1, κ1, Φ1, Ψ1⟩ := x
    show ok (mX6_tick_L122 F (Sn τ) (Jn τ) Ns bo (nI k) ζ1 κ1 Φ1 Ψ1) _
    have h : LW τ (fo (ph3 τ w0) 0 k σ) ζ1 κ1 Φ1 Ψ1 := h
    have e := fo_end (ph3 τ w0) k 0 σ
    rw [Nat.zero_add] at e
    rw [e]
    obtain ⟨hW1, hw1⟩ := fo3_inv (k := k) hI hB hW hw (by omega)
    have hw2 := hw1 k (Nat.le_refl _)
    generalize fo (ph3 τ w0) 0 k σ = σ1 at h hW1 hw2 ⊢
    unfold mX6_tick_L122 ph3
    rw [if_neg (nle (by omega) (by omega) hk), rd_at hk (by omega), ob1_e, hb k hk]
    by_cases h1 : w0 k = 2
    · obtain ⟨hS, hL⟩ := hW1.2.1 k hk
      obtain ⟨⟨ζ2, κ2, Φ2, Ψ2⟩, e1, e2⟩ := l_back (F := F) hI hN h hS hk (hw2 h1) hF
      rw [if_neg (by rw [decide_eq_true h1]; decide), if_pos h1, hixn_at hk (by omega), ob1_e, e1]
      simp only [ob4_e', nI_s]
      exact ok_some ⟨_, rfl, e2⟩
    · rw [if_pos (by rw [decide_eq_false h1]; rfl), if_neg h1]
      simp only [ob4_e', nI_s]
      exact ok_some ⟨_, rfl, h⟩
  · obtain ⟨ζ1, κ1, Φ1, Ψ1⟩ := x
    show ok (mX6_tick_L122 F (Sn τ) (Jn τ) Ns bo (nI (Jn τ)) ζ1 κ1 Φ1 Ψ1) _
    unfold mX6_tick_L122
    rw [if_pos (Int32.le_refl _)]
    exact ok_some ⟨_, rfl, h⟩
theorem l_tick (hI : SI τ) (hM : SM τ) (hN : NR τ Ns) (hB : B ≤ 2147400000) (hW : WI B T τ σ) (hR : RI τ σ) (h : LW τ σ ζ κ Φ Ψ) (hF : 5000 ≤ F) : ok (mX6_tick F (Sn τ) (Jn τ) Ns ζ κ Φ Ψ) (fun r => LW τ (tickF τ σ) r.1 r.2.1 r.2.2.1 r.2.2.2) := by
  have hJ := hI.J.2
  obtain ⟨a1, b1⟩ := fo1_inv (k := Jn τ) hI hW (Nat.le_refl _)
  obtain ⟨a2, b2⟩ := fo2_inv (k := Jn τ) hI (by omega) a1 (Nat.le_refl _)
  obtain ⟨⟨Φ1, Ψ1, bo⟩, l1, r1, hb⟩ := l_ph1 (F := F) hI hN h hF (fun _ => 0)
  obtain ⟨⟨κ2, Φ2, Ψ2⟩, l2, r2⟩ := l_ph2 (F := F) hI hN (by omega) a1 (RI_f1 hR) r1 hF bo
  obtain ⟨⟨ζ3, κ3, Φ3, Ψ3⟩, l3, r3⟩ := l_ph3 (F := F) (w0 := σ 5) hI hN hB a2 (fun i hi => b2 i (b1 i hi)) r2 hF hb
  have r3 : LW τ (ph123 τ σ) ζ3 κ3 Φ3 Ψ3 := r3
  unfold mX6_tick
  rw [gLt_t (show Jn τ < 9 by omega), ob1_e, l1, ob3_e, l2, ob3_e, l3]
  simp only [ob4_e', ob1_e]
  have ht : LW τ (tickF τ σ) (pf ζ3 0 (ζ3 0 0 + 1)) κ3 Φ3 Ψ3 := by
    unfold tickF
    rw [r3.lg.1]
    exact r3.time
  exact ok_some ht
end LU
