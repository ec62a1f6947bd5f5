/-! pure: the checksums; the class agrees with the law's world -/
section AG
variable {ζ κ : MS} {Φ Ψ : WS} {F s j i k : Nat} {Ns : PA} {τs : WS} {n : Nat} {pa : PA} {β : FS} {υ : MS} {ω : WS} {sid : PA}
theorem c_ck (hF : 5000 ≤ F) (hg : gW sid n 0 = some ()) (hI : SI (τs (sid 0))) (hN : NR (τs (sid 0)) Ns) (h : LW (τs (sid 0)) (ω 0) ζ κ Φ Ψ) (hb : ∀ j, j < Jn (τs (sid 0)) → bd (ω 0 5 j) 0 5) : mX3_checksum F τs n pa β υ ω sid = some (ckAll F (τs (sid 0)) (ω 0)) := by
  have hS := hI.S
  have hJ := hI.J
  have hNN := hI.N.2
  have l1 := loop_up (f := fun st : Int32 × Int64 => mX3_checksum_L4 F τs n pa β υ ω sid st.1 st.2) (fun _ _ => True) (ck (vA F (τs (sid 0)) (ω 0))) (fun v => v) 10 (fun q v hq _ => ⟨by
    show mX3_checksum_L4 F τs n pa β υ ω sid (nI q) v = _
    unfold mX3_checksum_L4
    rw [if_neg (i32_nle (c := 10) (b := 10) rfl (by omega) (by decide) hq), hg, ob1_e, (v_all hI hN h hF hq).1, ob1_e, nI_s]; rfl, trivial⟩) (fun v _ => by
    show mX3_checksum_L4 F τs n pa β υ ω sid (nI 10) v = _
    unfold mX3_checksum_L4
    rw [if_pos (by decide)]) 10 0 F 0 (by omega) (by omega) trivial
  have l2 : ∀ k, k < Sn (τs (sid 0)) → ∀ v, loopM (fun st : Int32 × Int64 => mX3_checksum_L51 F τs n (nI k) pa β υ ω sid st.1 st.2) F (nI 0, v) = some (ckS F (τs (sid 0)) (ω 0) k v) := fun k hk v => loop_up (f := fun st : Int32 × Int64 => mX3_checksum_L51 F τs n (nI k) pa β υ ω sid st.1 st.2) (fun _ _ => True) (ck (vS F (τs (sid 0)) (ω 0) k)) (fun v => v) 6 (fun q v hq _ => ⟨by
    show mX3_checksum_L51 F τs n (nI k) pa β υ ω sid (nI q) v = _
    unfold mX3_checksum_L51
    rw [if_neg (i32_nle (c := 6) (b := 6) rfl (by omega) (by decide) hq), hg, ob1_e, (v_stock hI hN h hF hk hq).1, ob1_e, nI_s]; rfl, trivial⟩) (fun v _ => by
    show mX3_checksum_L51 F τs n (nI k) pa β υ ω sid (nI 6) v = _
    unfold mX3_checksum_L51
    rw [if_pos (by decide)]) 6 0 F v (by omega) (by omega) trivial
  have l3 := fun v => loop_up (f := fun st : Int32 × Int64 => mX3_checksum_L34 F τs n pa β υ ω sid st.1 st.2) (fun _ _ => True) (ckS F (τs (sid 0)) (ω 0)) (fun v => v) (Sn (τs (sid 0))) (fun k v hk _ => ⟨by
    show mX3_checksum_L34 F τs n pa β υ ω sid (nI k) v = _
    unfold mX3_checksum_L34
    rw [hg, ob1_e, ob1_e, hS.1, if_neg (nle (by omega) (by omega) hk), i0, l2 k hk, ob1_e, nI_s], trivial⟩) (fun v _ => by
    show mX3_checksum_L34 F τs n pa β υ ω sid (nI (Sn (τs (sid 0)))) v = _
    unfold mX3_checksum_L34
    rw [hg, ob1_e, ob1_e, hS.1, if_pos (Int32.le_refl _)]) (Sn (τs (sid 0))) 0 F v (by omega) (by omega) trivial
  have l4 : ∀ j, j < Jn (τs (sid 0)) → ∀ v, loopM (fun st : Int32 × Int64 => mX3_sumWithJourney_L6 F τs n (nI j) pa β υ ω sid st.1 st.2) F (nI 0, v) = some (fo (ck (vJ F (τs (sid 0)) (ω 0) j)) 0 7 v) := fun j hj v => loop_up (f := fun st : Int32 × Int64 => mX3_sumWithJourney_L6 F τs n (nI j) pa β υ ω sid st.1 st.2) (fun _ _ => True) (ck (vJ F (τs (sid 0)) (ω 0) j)) (fun v => v) 7 (fun q v hq _ => ⟨by
    show mX3_sumWithJourney_L6 F τs n (nI j) pa β υ ω sid (nI q) v = _
    unfold mX3_sumWithJourney_L6
    rw [if_neg (i32_nle (c := 7) (b := 7) rfl (by omega) (by decide) hq), hg, ob1_e, (v_journey hI hN h hF hj (hb j hj) hq).1, ob1_e, nI_s]; rfl, trivial⟩) (fun v _ => by
    show mX3_sumWithJourney_L6 F τs n (nI j) pa β υ ω sid (nI 7) v = _
    unfold mX3_sumWithJourney_L6
    rw [if_pos (by decide)]) 7 0 F v (by omega) (by omega) trivial
  have l5 : ∀ (x : Int32) (j i : Nat), j < Jn (τs (sid 0)) → An (τs (sid 0)) j + i < En (τs (sid 0)) j → ∀ v, loopM (fun st : Int32 × Int64 => mX3_sumWithJourney_L77 F τs n (nI (An (τs (sid 0)) j + i)) x pa β υ ω sid st.1 st.2) F (nI 4, v) = some (ckT F (τs (sid 0)) (ω 0) (An (τs (sid 0)) j + i) v) := fun x j i hj hi v => loop_up (f := fun st : Int32 × Int64 => mX3_sumWithJourney_L77 F τs n (nI (An (τs (sid 0)) j + i)) x pa β υ ω sid st.1 st.2) (fun _ _ => True) (ck (vT F (τs (sid 0)) (ω 0) (An (τs (sid 0)) j + i))) (fun v => v) 7 (fun q v hq _ => ⟨by
    show mX3_sumWithJourney_L77 F τs n (nI (An (τs (sid 0)) j + i)) x pa β υ ω sid (nI q) v = _
    unfold mX3_sumWithJourney_L77
    rw [if_neg (i32_nle (c := 7) (b := 7) rfl (by omega) (by decide) hq), hg, ob1_e, (v_step hI h hj hi hq).1, ob1_e, nI_s]; rfl, trivial⟩) (fun v _ => by
    show mX3_sumWithJourney_L77 F τs n (nI (An (τs (sid 0)) j + i)) x pa β υ ω sid (nI 7) v = _
    unfold mX3_sumWithJourney_L77
    rw [if_pos (by decide)]) 3 4 F v (by omega) (by omega) trivial
  have l6 : ∀ j, j < Jn (τs (sid 0)) → ∀ v, mX3_sumWithJourney F τs n pa β υ ω sid v (nI j) = some (ckJ F (τs (sid 0)) (ω 0) j v) := fun j hj v => by
    have hA := hI.A hj
    have := loop_up (f := fun st : Int32 × Int64 => mX3_sumWithJourney_L67 F τs n (nI (En (τs (sid 0)) j)) pa β υ ω sid st.1 st.2) (fun a _ => An (τs (sid 0)) j ≤ a) (ckT F (τs (sid 0)) (ω 0)) (fun v => v) (En (τs (sid 0)) j) (fun s v hs hP => ⟨by
      show mX3_sumWithJourney_L67 F τs n (nI (En (τs (sid 0)) j)) pa β υ ω sid (nI s) v = _
      obtain ⟨i, rfl⟩ : ∃ i, s = An (τs (sid 0)) j + i := ⟨s - An (τs (sid 0)) j, by omega⟩
      unfold mX3_sumWithJourney_L67
      rw [if_neg (nle (by omega) (by omega) hs), show (4 : Int32) = nI 4 from rfl, l5 _ j i hj hs, ob1_e, nI_s], by omega⟩) (fun v _ => by
      show mX3_sumWithJourney_L67 F τs n (nI (En (τs (sid 0)) j)) pa β υ ω sid (nI (En (τs (sid 0)) j)) v = _
      unfold mX3_sumWithJourney_L67
      rw [if_pos (Int32.le_refl _)]) (En (τs (sid 0)) j - An (τs (sid 0)) j) (An (τs (sid 0)) j) F (fo (ck (vJ F (τs (sid 0)) (ω 0) j)) 0 7 v) (by omega) (by omega) (Nat.le_refl _)
    unfold mX3_sumWithJourney
    rw [i0, l4 j hj, ob1_e]
    simp only [hg, ob1_e]
    rw [rE hI hj, ob1_e, rA hI hj, ob1_e, this, ob1_e]
    rfl
  have l7 := fun v => loop_up (f := fun st : Int32 × Int64 => mX3_checksum_L90 F τs n pa β υ ω sid st.1 st.2) (fun _ _ => True) (ckJ F (τs (sid 0)) (ω 0)) (fun v => v) (Jn (τs (sid 0))) (fun j v hj _ => ⟨by
    show mX3_checksum_L90 F τs n pa β υ ω sid (nI j) v = _
    unfold mX3_checksum_L90
    rw [hg, ob1_e, ob1_e, hJ.1, if_neg (nle (by omega) (by omega) hj), l6 j hj, ob1_e, nI_s], trivial⟩) (fun v _ => by
    show mX3_checksum_L90 F τs n pa β υ ω sid (nI (Jn (τs (sid 0)))) v = _
    unfold mX3_checksum_L90
    rw [hg, ob1_e, ob1_e, hJ.1, if_pos (Int32.le_refl _)]) (Jn (τs (sid 0))) 0 F v (by omega) (by omega) trivial
  unfold mX3_checksum
  rw [i0, l1, ob1_e, l3, ob1_e, l7, ob1_e]
  rfl
theorem l_ck {τ σ : MS} (hF : 5000 ≤ F) (hI : SI τ) (hN : NR τ Ns) (h : LW τ σ ζ κ Φ Ψ) (hb : ∀ j, j < Jn τ → bd (σ 5 j) 0 5) : mX6_checksum F (Sn τ) (Jn τ) Ns ζ κ Φ Ψ = some (ckAll F τ σ) := by
  have hS := hI.S
  have hJ := hI.J
  have hNN := hI.N.2
  have l1 := loop_up (f := fun st : Int32 × Int64 => mX6_checksum_L4 F (Sn τ) (Jn τ) Ns ζ κ Φ Ψ st.1 st.2) (fun _ _ => True) (ck (vA F τ σ)) (fun v => v) 10 (fun q v hq _ => ⟨by
    show mX6_checksum_L4 F (Sn τ) (Jn τ) Ns ζ κ Φ Ψ (nI q) v = _
    unfold mX6_checksum_L4
    rw [if_neg (i32_nle (c := 10) (b := 10) rfl (by omega) (by decide) hq), (v_all hI hN h hF hq).2, ob1_e, nI_s]; rfl, trivial⟩) (fun v _ => by
    show mX6_checksum_L4 F (Sn τ) (Jn τ) Ns ζ κ Φ Ψ (nI 10) v = _
    unfold mX6_checksum_L4
    rw [if_pos (by decide)]) 10 0 F 0 (by omega) (by omega) trivial
  have l2 : ∀ k, k < Sn τ → ∀ v, loopM (fun st : Int32 × Int64 => mX6_checksum_L43 F (Sn τ) (Jn τ) Ns (nI k) ζ κ Φ Ψ st.1 st.2) F (nI 0, v) = some (ckS F τ σ k v) := fun k hk v => loop_up (f := fun st : Int32 × Int64 => mX6_checksum_L43 F (Sn τ) (Jn τ) Ns (nI k) ζ κ Φ Ψ st.1 st.2) (fun _ _ => True) (ck (vS F τ σ k)) (fun v => v) 6 (fun q v hq _ => ⟨by
    show mX6_checksum_L43 F (Sn τ) (Jn τ) Ns (nI k) ζ κ Φ Ψ (nI q) v = _
    unfold mX6_checksum_L43
    rw [if_neg (i32_nle (c := 6) (b := 6) rfl (by omega) (by decide) hq), (v_stock hI hN h hF hk hq).2, ob1_e, nI_s]; rfl, trivial⟩) (fun v _ => by
    show mX6_checksum_L43 F (Sn τ) (Jn τ) Ns (nI k) ζ κ Φ Ψ (nI 6) v = _
    unfold mX6_checksum_L43
    rw [if_pos (by decide)]) 6 0 F v (by omega) (by omega) trivial
  have l3 := fun v => loop_up (f := fun st : Int32 × Int64 => mX6_checksum_L31 F (Sn τ) (Jn τ) Ns ζ κ Φ Ψ st.1 st.2) (fun _ _ => True) (ckS F τ σ) (fun v => v) (Sn τ) (fun k v hk _ => ⟨by
    show mX6_checksum_L31 F (Sn τ) (Jn τ) Ns ζ κ Φ Ψ (nI k) v = _
    unfold mX6_checksum_L31
    rw [if_neg (nle (by omega) (by omega) hk), i0, l2 k hk, ob1_e, nI_s], trivial⟩) (fun v _ => by
    show mX6_checksum_L31 F (Sn τ) (Jn τ) Ns ζ κ Φ Ψ (nI (Sn τ)) v = _
    unfold mX6_checksum_L31
    rw [if_pos (Int32.le_refl _)]) (Sn τ) 0 F v (by omega) (by omega) trivial
  have l4 : ∀ j, j < Jn τ → ∀ v, loopM (fun st : Int32 × Int64 => mX6_checksum_L91 F (Sn τ) (Jn τ) Ns (nI j) ζ κ Φ Ψ st.1 st.2) F (nI 0, v) = some (fo (ck (vJ F τ σ j)) 0 7 v) := fun j hj v => loop_up (f := fun st : Int32 × Int64 => mX6_checksum_L91 F (Sn τ) (Jn τ) Ns (nI j) ζ κ Φ Ψ st.1 st.2) (fun _ _ => True) (ck (vJ F τ σ j)) (fun v => v) 7 (fun q v hq _ => ⟨by
    show mX6_checksum_L91 F (Sn τ) (Jn τ) Ns (nI j) ζ κ Φ Ψ (nI q) v = _
    unfold mX6_checksum_L91
    rw [if_neg (i32_nle (c := 7) (b := 7) rfl (by omega) (by decide) hq), (v_journey hI hN h hF hj (hb j hj) hq).2, ob1_e, nI_s]; rfl, trivial⟩) (fun v _ => by
    show mX6_checksum_L91 F (Sn τ) (Jn τ) Ns (nI j) ζ κ Φ Ψ (nI 7) v = _
    unfold mX6_checksum_L91
    rw [if_pos (by decide)]) 7 0 F v (by omega) (by omega) trivial
  have l6 : ∀ j, j < Jn τ → ∀ w v, loopM (fun st : Int32 × Int64 => mX6_checksum_L138 F (Sn τ) (Jn τ) Ns (nI (Ns j)) j w ζ κ Φ Ψ st.1 st.2) F (nI 0, v) = some (fo (ckT F τ σ) (An τ j) (En τ j - An τ j) v) := fun j hj w v => by
    have hA := hI.A hj
    have := loop_up (f := fun st : Int32 × Int64 => mX6_checksum_L138 F (Sn τ) (Jn τ) Ns (nI (Ns j)) j w ζ κ Φ Ψ st.1 st.2) (fun _ _ => True) (fun i v => ckT F τ σ (An τ j + i) v) (fun v => v) (En τ j - An τ j) (fun i v hi _ => ⟨by
      show mX6_checksum_L138 F (Sn τ) (Jn τ) Ns (nI (Ns j)) j w ζ κ Φ Ψ (nI i) v = _
      unfold mX6_checksum_L138
      rw [hN j hj, if_neg (nle (by omega) (by omega) hi), hixn_at hi (by omega), ob1_e]
      have e4 := (v_step (F := F) hI h hj (i := i) (by omega) (q := 4) (by decide)).2
      have e5 := (v_step (F := F) hI h hj (i := i) (by omega) (q := 5) (by decide)).2
      have e6 := (v_step (F := F) hI h hj (i := i) (by omega) (q := 6) (by decide)).2
      rw [show rd (Ψ j i) 9 (4 : Int32) = _ from e4, ob1_e, show rd (Ψ j i) 9 (5 : Int32) = _ from e5, ob1_e, show rd (Ψ j i) 9 (6 : Int32) = _ from e6, ob1_e, nI_s]
      rfl, trivial⟩) (fun v _ => by
      show mX6_checksum_L138 F (Sn τ) (Jn τ) Ns (nI (Ns j)) j w ζ κ Φ Ψ (nI (En τ j - An τ j)) v = _
      unfold mX6_checksum_L138
      rw [hN j hj, if_pos (Int32.le_refl _)]) (En τ j - An τ j) 0 F v (by omega) (by omega) trivial
    rw [this]
    have e := fo_sh (ckT F τ σ) (An τ j) (En τ j - An τ j) 0 v
    rw [Nat.add_zero] at e
    rw [← e]
  have l7 := fun v => loop_up (f := fun st : Int32 × Int64 => mX6_checksum_L79 F (Sn τ) (Jn τ) Ns ζ κ Φ Ψ st.1 st.2) (fun _ _ => True) (ckJ F τ σ) (fun v => v) (Jn τ) (fun j v hj _ => ⟨by
    show mX6_checksum_L79 F (Sn τ) (Jn τ) Ns ζ κ Φ Ψ (nI j) v = _
    unfold mX6_checksum_L79
    rw [if_neg (nle (by omega) (by omega) hj), i0, l4 j hj, ob1_e, hixn_at hj (by omega), ob1_e, l6 j hj, ob1_e, nI_s]
    rfl, trivial⟩) (fun v _ => by
    show mX6_checksum_L79 F (Sn τ) (Jn τ) Ns ζ κ Φ Ψ (nI (Jn τ)) v = _
    unfold mX6_checksum_L79
    rw [if_pos (Int32.le_refl _)]) (Jn τ) 0 F v (by omega) (by omega) trivial
  unfold mX6_checksum
  rw [i0, l1, ob1_e, l3, ob1_e, l7, ob1_e]
  rfl
/-- the class's own answers -/
theorem c_state (hg : gW sid n 0 = some ()) {q : Nat} {r : Int32} (hq : q < 10) (h : mX2_numberOfAll F (τs (sid 0)) (ω 0) (nI q) = some r) : mX3_state F τs n pa β υ ω sid (nI q) = some (.inr r) := by
  have hw : outW (nI q) 10 = false := outW_i (m := 10) hq (by decide)
  unfold mX3_state
  rw [c_ckW, iff' hw, obX_R, hg, ob1_e, h, ob1_e]
theorem c_stateX : mX3_state F τs n pa β υ ω sid (10 : Int32) = some (.inl "java/lang/IllegalArgumentException") := by
  have hw : outW 10 10 = true := outW_o (q := 10) (m := 10) (by decide) (by decide)
  unfold mX3_state
  rw [c_ckW, ift hw, obX_L]
theorem c_stock (hg : gW sid n 0 = some ()) (hI : SI (τs (sid 0))) {q : Nat} {r : Int32} (hk : k < Sn (τs (sid 0))) (hq : q < 6) (h : mX2_numberOfStock F (τs (sid 0)) (ω 0) (nI k) (nI q) = some r) : mX3_stock F τs n pa β υ ω sid (nI k) (nI q) = some (.inr r) := by
  have hw : outW (nI q) 6 = false := outW_i (m := 6) hq (by decide)
  have hs : outS (τs (sid 0)) (nI k) = false := by have := hI.S; unfold outS; rw [this.1]; exact outW_i hk (by omega)
  unfold mX3_stock
  rw [c_ckS hg, iff' hs, obX_R, c_ckW, iff' hw, obX_R, hg, ob1_e, h, ob1_e]
theorem c_stockX (hg : gW sid n 0 = some ()) (hI : SI (τs (sid 0))) (q : Int32) : mX3_stock F τs n pa β υ ω sid (nI (Sn (τs (sid 0)))) q = some (.inl "java/lang/IndexOutOfBoundsException") := by
  have hs : outS (τs (sid 0)) (nI (Sn (τs (sid 0)))) = true := by
    have h := hI.S
    show outW (nI (Sn (τs (sid 0)))) (τs (sid 0) 2 0) = true
    rw [h.1]
    exact outW_o (Nat.le_refl _) (by omega)
  unfold mX3_stock
  rw [c_ckS hg, ift hs, obX_L]
theorem c_journey (hg : gW sid n 0 = some ()) (hI : SI (τs (sid 0))) {q : Nat} {r : Int32} (hj : j < Jn (τs (sid 0))) (hq : q < 7) (h : mX2_numberOfJourney F (τs (sid 0)) (ω 0) (nI j) (nI q) = some r) : mX3_journey F τs n pa β υ ω sid (nI j) (nI q) = some (.inr r) := by
  have hw : outW (nI q) 7 = false := outW_i (m := 7) hq (by decide)
  have hs : outJ (τs (sid 0)) (nI j) = false := by have := hI.J; unfold outJ; rw [this.1]; exact outW_i hj (by omega)
  unfold mX3_journey
  rw [c_ckJ hg, iff' hs, obX_R, c_ckW, iff' hw, obX_R, hg, ob1_e, h, ob1_e]
theorem c_journeyX (hg : gW sid n 0 = some ()) (hI : SI (τs (sid 0))) (q : Int32) : mX3_journey F τs n pa β υ ω sid (nI (Jn (τs (sid 0)))) q = some (.inl "java/lang/IndexOutOfBoundsException") := by
  have hs : outJ (τs (sid 0)) (nI (Jn (τs (sid 0)))) = true := by
    have h := hI.J
    show outW (nI (Jn (τs (sid 0)))) (τs (sid 0) 5 0) = true
    rw [h.1]
    exact outW_o (Nat.le_refl _) (by omega)
  unfold mX3_journey
  rw [c_ckJ hg, ift hs, obX_L]
theorem c_stepC (hg : gW sid n 0 = some ()) (hI : SI (τs (sid 0))) (hj : j < Jn (τs (sid 0))) (i2 : Int32) : (if i2 < 0 then some true else ob1 (gW sid n 0) fun _ => ob1 (gW sid n 0) fun _ => ob1 (mX0_stepsOf F (τs (sid 0)) (nI j)) fun r7 => (if i2 < r7 then some false else some true)) = some (outW i2 (nI (En (τs (sid 0)) j - An (τs (sid 0)) j))) := by
  rw [hg, ob1_e, ob1_e, c_stepsOf hI hj, ob1_e]
  unfold outW
  by_cases h1 : i2 < 0
  · simp [h1]
  · by_cases h2 : i2 < nI (En (τs (sid 0)) j - An (τs (sid 0)) j) <;> simp [h1, h2]
theorem c_stepR (hg : gW sid n 0 = some ()) (hI : SI (τs (sid 0))) {q : Nat} {r : Int32} (hj : j < Jn (τs (sid 0))) (hi : An (τs (sid 0)) j + i < En (τs (sid 0)) j) (hq : q < 7) (h : mX2_numberOfStep F (τs (sid 0)) (ω 0) (nI (An (τs (sid 0)) j + i)) (nI q) = some r) : mX3_step F τs n pa β υ ω sid (nI j) (nI i) (nI q) = some (.inr r) := by
  have hA := hI.A hj
  have hNN := hI.N.2
  have hw2 : outW (nI q) 7 = false := outW_i (m := 7) hq (by decide)
  have hs : outJ (τs (sid 0)) (nI j) = false := by have := hI.J; unfold outJ; rw [this.1]; exact outW_i hj (by omega)
  have hw : outW (nI i) (nI (En (τs (sid 0)) j - An (τs (sid 0)) j)) = false := outW_i (by omega) (by omega)
  unfold mX3_step
  rw [c_ckJ hg, iff' hs, obX_R, c_stepC hg hI hj, hw, ob1_e, cnd_F, c_ckW, iff' hw2, obX_R]
  simp only [hg, ob1_e]
  rw [rA hI hj, ob1_e, nI_a, h, ob1_e]
theorem c_stepX (hg : gW sid n 0 = some ()) (hI : SI (τs (sid 0))) (hj : j < Jn (τs (sid 0))) (q : Int32) : mX3_step F τs n pa β υ ω sid (nI j) (nI (En (τs (sid 0)) j - An (τs (sid 0)) j)) q = some (.inl "java/util/NoSuchElementException") := by
  have hA := hI.A hj
  have hNN := hI.N.2
  have hs : outJ (τs (sid 0)) (nI j) = false := by have := hI.J; unfold outJ; rw [this.1]; exact outW_i hj (by omega)
  have hw : outW (nI (En (τs (sid 0)) j - An (τs (sid 0)) j)) (nI (En (τs (sid 0)) j - An (τs (sid 0)) j)) = true := outW_o (Nat.le_refl _) (by omega)
  unfold mX3_step
  rw [c_ckJ hg, iff' hs, obX_R, c_stepC hg hI hj, hw, ob1_e, cnd_T]
theorem xC1 : xC [("java/lang/IllegalArgumentException", (-2000000098 : Int32))] "java/lang/IllegalArgumentException" = -2000000098 := by simp [xC]
theorem xC2 : xC [("java/lang/IndexOutOfBoundsException", (-2000000097 : Int32)), ("java/lang/IllegalArgumentException", (-2000000098 : Int32))] "java/lang/IndexOutOfBoundsException" = -2000000097 := by simp [xC]
theorem xC3 : xC [("java/lang/IndexOutOfBoundsException", (-2000000097 : Int32)), ("java/util/NoSuchElementException", (-2000000100 : Int32)), ("java/lang/IllegalArgumentException", (-2000000098 : Int32))] "java/util/NoSuchElementException" = -2000000100 := by simp [xC]
theorem n1 : ¬ (1 : Int32) = 0 := by decide
theorem l_agrees (hF : 5000 ≤ F) (hg : gW sid n 0 = some ()) (hI : SI (τs (sid 0))) (hM : SM (τs (sid 0))) (hN : NR (τs (sid 0)) Ns) (h : LW (τs (sid 0)) (ω 0) ζ κ Φ Ψ) (hb : ∀ j, j < Jn (τs (sid 0)) → bd (ω 0 5 j) 0 5) : mL_agrees F (Sn (τs (sid 0))) (Jn (τs (sid 0))) Ns τs n pa β υ ω sid ζ κ Φ Ψ = some 1 := by
  obtain ⟨m1, m2, m3⟩ := hM
  have l1 := loop_up (f := fun st : Int32 × Int32 => mL_agrees_L31 F (Sn (τs (sid 0))) (Jn (τs (sid 0))) Ns τs n pa β υ ω sid ζ κ Φ Ψ st.1 st.2) (fun _ v => v = 1) (fun _ v => v) (fun v => v) 10 (fun q v hq hv => ⟨by
    subst hv
    show mL_agrees_L31 F (Sn (τs (sid 0))) (Jn (τs (sid 0))) Ns τs n pa β υ ω sid ζ κ Φ Ψ (nI q) 1 = _
    obtain ⟨r, e1, e2⟩ := t_all (F := F) hI hN h hF hq
    unfold mL_agrees_L31
    rw [if_neg (i32_nle (c := 10) (b := 10) rfl (by omega) (by decide) hq), if_neg n1, ob1_e, cnd_T, c_state hg hq e1, hEl_R, ob1_e, ob1_e, xE_R, e2, ob1_e, if_pos rfl, ob1_e, nI_s], hv⟩) (fun v hv => by
    show mL_agrees_L31 F (Sn (τs (sid 0))) (Jn (τs (sid 0))) Ns τs n pa β υ ω sid ζ κ Φ Ψ (nI 10) v = _
    unfold mL_agrees_L31
    rw [if_pos (by decide), ob1_e, cnd_F]) 10 0 11 1 (by omega) (by omega) rfl
  have l2 : ∀ k, k < Sn (τs (sid 0)) → loopM (fun st : Int32 × Int32 => mL_agrees_L84 F (Sn (τs (sid 0))) (Jn (τs (sid 0))) Ns (nI k) τs n pa β υ ω sid ζ κ Φ Ψ st.1 st.2) 7 ((0 : Int32), (1 : Int32)) = some 1 := fun k hk => by
    have := loop_up (f := fun st : Int32 × Int32 => mL_agrees_L84 F (Sn (τs (sid 0))) (Jn (τs (sid 0))) Ns (nI k) τs n pa β υ ω sid ζ κ Φ Ψ st.1 st.2) (fun _ v => v = 1) (fun _ v => v) (fun v => v) 6 (fun q v hq hv => ⟨by
      subst hv
      show mL_agrees_L84 F (Sn (τs (sid 0))) (Jn (τs (sid 0))) Ns (nI k) τs n pa β υ ω sid ζ κ Φ Ψ (nI q) 1 = _
      obtain ⟨r, e1, e2⟩ := t_stock (F := F) hI hN h hF hk hq
      unfold mL_agrees_L84
      rw [if_neg (i32_nle (c := 6) (b := 6) rfl (by omega) (by decide) hq), if_neg n1, ob1_e, cnd_T, c_stock hg hI hk hq e1, hEl_R, ob1_e, ob1_e, xE_R, e2, ob1_e, if_pos rfl, ob1_e, nI_s], hv⟩) (fun v hv => by
      show mL_agrees_L84 F (Sn (τs (sid 0))) (Jn (τs (sid 0))) Ns (nI k) τs n pa β υ ω sid ζ κ Φ Ψ (nI 6) v = _
      unfold mL_agrees_L84
      rw [if_pos (by decide), ob1_e, cnd_F]) 6 0 7 1 (by omega) (by omega) rfl
    refine Eq.trans this ?_
    rw [fo_id (fun _ _ _ => rfl)]
  have l3 := loop_up (f := fun st : Int32 × Int32 => mL_agrees_L68 F (Sn (τs (sid 0))) (Jn (τs (sid 0))) Ns τs n pa β υ ω sid ζ κ Φ Ψ st.1 st.2) (fun _ v => v = 1) (fun _ v => v) (fun v => v) (Sn (τs (sid 0))) (fun k v hk hv => ⟨by
    subst hv
    show mL_agrees_L68 F (Sn (τs (sid 0))) (Jn (τs (sid 0))) Ns τs n pa β υ ω sid ζ κ Φ Ψ (nI k) 1 = _
    unfold mL_agrees_L68
    rw [if_neg (nle (by omega) (by omega) hk), if_neg n1, ob1_e, cnd_T, l2 k hk, ob1_e, nI_s], hv⟩) (fun v hv => by
    show mL_agrees_L68 F (Sn (τs (sid 0))) (Jn (τs (sid 0))) Ns τs n pa β υ ω sid ζ κ Φ Ψ (nI (Sn (τs (sid 0)))) v = _
    unfold mL_agrees_L68
    rw [if_pos (Int32.le_refl _), ob1_e, cnd_F]) (Sn (τs (sid 0))) 0 5 1 (by omega) (by omega) rfl
  have l4 : ∀ j, j < Jn (τs (sid 0)) → loopM (fun st : Int32 × Int32 => mL_agrees_L148 F (Sn (τs (sid 0))) (Jn (τs (sid 0))) Ns (nI j) τs n pa β υ ω sid ζ κ Φ Ψ st.1 st.2) 8 ((0 : Int32), (1 : Int32)) = some 1 := fun j hj => by
    have := loop_up (f := fun st : Int32 × Int32 => mL_agrees_L148 F (Sn (τs (sid 0))) (Jn (τs (sid 0))) Ns (nI j) τs n pa β υ ω sid ζ κ Φ Ψ st.1 st.2) (fun _ v => v = 1) (fun _ v => v) (fun v => v) 7 (fun q v hq hv => ⟨by
      subst hv
      show mL_agrees_L148 F (Sn (τs (sid 0))) (Jn (τs (sid 0))) Ns (nI j) τs n pa β υ ω sid ζ κ Φ Ψ (nI q) 1 = _
      obtain ⟨r, e1, e2⟩ := t_journey (F := F) hI hN h hF hj (hb j hj) hq
      unfold mL_agrees_L148
      rw [if_neg (i32_nle (c := 7) (b := 7) rfl (by omega) (by decide) hq), if_neg n1, ob1_e, cnd_T, c_journey hg hI hj hq e1, hEl_R, ob1_e, ob1_e, xE_R, e2, ob1_e, if_pos rfl, ob1_e, nI_s], hv⟩) (fun v hv => by
      show mL_agrees_L148 F (Sn (τs (sid 0))) (Jn (τs (sid 0))) Ns (nI j) τs n pa β υ ω sid ζ κ Φ Ψ (nI 7) v = _
      unfold mL_agrees_L148
      rw [if_pos (by decide), ob1_e, cnd_F]) 7 0 8 1 (by omega) (by omega) rfl
    refine Eq.trans this ?_
    rw [fo_id (fun _ _ _ => rfl)]
  have l5 : ∀ j i, j < Jn (τs (sid 0)) → An (τs (sid 0)) j + i < En (τs (sid 0)) j → loopM (fun st : Int32 × Int32 => mL_agrees_L217 F (Sn (τs (sid 0))) (Jn (τs (sid 0))) Ns (nI i) j (nI j) τs n pa β υ ω sid ζ κ Φ Ψ st.1 st.2) 8 ((0 : Int32), (1 : Int32)) = some 1 := fun j i hj hi => by
    have hA := hI.A hj
    have hNN := hI.N.2
    have := loop_up (f := fun st : Int32 × Int32 => mL_agrees_L217 F (Sn (τs (sid 0))) (Jn (τs (sid 0))) Ns (nI i) j (nI j) τs n pa β υ ω sid ζ κ Φ Ψ st.1 st.2) (fun _ v => v = 1) (fun _ v => v) (fun v => v) 7 (fun q v hq hv => ⟨by
      subst hv
      show mL_agrees_L217 F (Sn (τs (sid 0))) (Jn (τs (sid 0))) Ns (nI i) j (nI j) τs n pa β υ ω sid ζ κ Φ Ψ (nI q) 1 = _
      obtain ⟨r, e1, e2⟩ := t_step (F := F) hI h hj hi hq
      unfold mL_agrees_L217
      rw [if_neg (i32_nle (c := 7) (b := 7) rfl (by omega) (by decide) hq), if_neg n1, ob1_e, cnd_T, c_stepR hg hI hj hi hq e1, hEl_R, ob1_e, ob1_e, xE_R, hN j hj, hixn_at (show i < En (τs (sid 0)) j - An (τs (sid 0)) j by omega) (by omega), ob1_e, e2, ob1_e, if_pos rfl, ob1_e, nI_s], hv⟩) (fun v hv => by
      show mL_agrees_L217 F (Sn (τs (sid 0))) (Jn (τs (sid 0))) Ns (nI i) j (nI j) τs n pa β υ ω sid ζ κ Φ Ψ (nI 7) v = _
      unfold mL_agrees_L217
      rw [if_pos (by decide), ob1_e, cnd_F]) 7 0 8 1 (by omega) (by omega) rfl
    refine Eq.trans this ?_
    rw [fo_id (fun _ _ _ => rfl)]
  have l6 : ∀ j, j < Jn (τs (sid 0)) → loopM (fun st : Int32 × Int32 => mL_agrees_L202 F (Sn (τs (sid 0))) (Jn (τs (sid 0))) Ns j (nI j) τs n pa β υ ω sid ζ κ Φ Ψ st.1 st.2) 11 ((0 : Int32), (1 : Int32)) = some 1 := fun j hj => by
    have hA := hI.A hj
    have hNN := hI.N.2
    have h9 := m3 j hj
    have := loop_up (f := fun st : Int32 × Int32 => mL_agrees_L202 F (Sn (τs (sid 0))) (Jn (τs (sid 0))) Ns j (nI j) τs n pa β υ ω sid ζ κ Φ Ψ st.1 st.2) (fun _ v => v = 1) (fun _ v => v) (fun v => v) (En (τs (sid 0)) j - An (τs (sid 0)) j) (fun i v hi hv => ⟨by
      subst hv
      show mL_agrees_L202 F (Sn (τs (sid 0))) (Jn (τs (sid 0))) Ns j (nI j) τs n pa β υ ω sid ζ κ Φ Ψ (nI i) 1 = _
      unfold mL_agrees_L202
      rw [hN j hj, if_neg (nle (by omega) (by omega) hi), if_neg n1, ob1_e, cnd_T, l5 j i hj (by omega), ob1_e, nI_s], hv⟩) (fun v hv => by
      show mL_agrees_L202 F (Sn (τs (sid 0))) (Jn (τs (sid 0))) Ns j (nI j) τs n pa β υ ω sid ζ κ Φ Ψ (nI (En (τs (sid 0)) j - An (τs (sid 0)) j)) v = _
      unfold mL_agrees_L202
      rw [hN j hj, if_pos (Int32.le_refl _), ob1_e, cnd_F]) (En (τs (sid 0)) j - An (τs (sid 0)) j) 0 11 1 (by omega) (by omega) rfl
    refine Eq.trans this ?_
    rw [fo_id (fun _ _ _ => rfl)]
  have l7 := loop_up (f := fun st : Int32 × Int32 => mL_agrees_L132 F (Sn (τs (sid 0))) (Jn (τs (sid 0))) Ns τs n pa β υ ω sid ζ κ Φ Ψ st.1 st.2) (fun _ v => v = 1) (fun _ v => v) (fun v => v) (Jn (τs (sid 0))) (fun j v hj hv => ⟨by
    subst hv
    show mL_agrees_L132 F (Sn (τs (sid 0))) (Jn (τs (sid 0))) Ns τs n pa β υ ω sid ζ κ Φ Ψ (nI j) 1 = _
    unfold mL_agrees_L132
    rw [if_neg (nle (by omega) (by omega) hj), if_neg n1, ob1_e, cnd_T, l4 j hj, ob1_e, hixn_at hj (by omega), ob1_e, l6 j hj, ob1_e, if_neg n1, hN j hj, c_stepX hg hI hj, hEl_L (by simp), ob1_e, ob1_e, xE_L, xC3, if_pos rfl, ob1_e, cnd_T, ob1_e, nI_s], hv⟩) (fun v hv => by
    show mL_agrees_L132 F (Sn (τs (sid 0))) (Jn (τs (sid 0))) Ns τs n pa β υ ω sid ζ κ Φ Ψ (nI (Jn (τs (sid 0)))) v = _
    unfold mL_agrees_L132
    rw [if_pos (Int32.le_refl _), ob1_e, cnd_F]) (Jn (τs (sid 0))) 0 6 1 (by omega) (by omega) rfl
  rw [fo_id (fun _ _ _ => rfl)] at l1 l3 l7
  unfold mL_agrees
  rw [c_ck hF hg hI hN h hb, ob1_e, l_ck hF hI hN h hb, ob1_e, if_pos ((lg_cmp_eq _ _).mpr rfl), c_stateX, hEl_L (by simp), ob1_e, ob1_e, xE_L, xC1, if_pos rfl, ob1_e, cnd_T, ob1_e]
  rw [show loopM (fun st : Int32 × Int32 => mL_agrees_L31 F (Sn (τs (sid 0))) (Jn (τs (sid 0))) Ns τs n pa β υ ω sid ζ κ Φ Ψ st.1 st.2) 11 ((0 : Int32), (1 : Int32)) = some 1 from l1, ob1_e, show loopM (fun st : Int32 × Int32 => mL_agrees_L68 F (Sn (τs (sid 0))) (Jn (τs (sid 0))) Ns τs n pa β υ ω sid ζ κ Φ Ψ st.1 st.2) 5 ((0 : Int32), (1 : Int32)) = some 1 from l3, ob1_e, show loopM (fun st : Int32 × Int32 => mL_agrees_L132 F (Sn (τs (sid 0))) (Jn (τs (sid 0))) Ns τs n pa β υ ω sid ζ κ Φ Ψ st.1 st.2) 6 ((0 : Int32), (1 : Int32)) = some 1 from l7, ob1_e, if_neg n1, c_stockX hg hI, hEl_L (by simp), ob1_e, ob1_e, xE_L, xC2, if_pos rfl, c_journeyX hg hI, hEl_L (by simp), ob1_e, ob1_e, xE_L, xC2, if_pos rfl, ob1_e, cnd_T, ob1_e]
end AG
