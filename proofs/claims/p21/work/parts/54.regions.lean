/-! pure: the law's changes, one by one -/
/-- the journey that the law has drawn -/
def TJ (τ σ : MS) (l15 : Option Nat) (l14 l16 l12 : Int32) : Prop := (l15 = none ∧ l14 = nI (Jn τ) ∧ l16 = 0 ∧ l12 = -2000000097) ∨ ∃ j, j < Jn τ ∧ l15 = some j ∧ l14 = nI j ∧ l16 = b01 (decide (σ 5 j = 5)) ∧ l12 = -2000000099
theorem xC4 : xC [("java/lang/IndexOutOfBoundsException", (-2000000097 : Int32)), ("java/lang/IllegalArgumentException", (-2000000098 : Int32))] "java/lang/IllegalArgumentException" = -2000000098 := by simp [xC]
theorem xC5 : xC [("java/lang/IndexOutOfBoundsException", (-2000000097 : Int32)), ("java/lang/IllegalStateException", (-2000000099 : Int32))] "java/lang/IndexOutOfBoundsException" = -2000000097 := by simp [xC]
theorem xC6 : xC [("java/lang/IndexOutOfBoundsException", (-2000000097 : Int32)), ("java/lang/IllegalStateException", (-2000000099 : Int32))] "java/lang/IllegalStateException" = -2000000099 := by simp [xC]
theorem isRight {a : Nat} (ha : a < 2000) : (ob1 (if nI a ≤ 0 then some false else (if (1000 : Int32) ≤ nI a then some false else some true)) fun t17 => cnd t17 (some (1 : Int32)) (some (0 : Int32))) = some (b01 (decide (1 ≤ a ∧ a ≤ 999))) := by
  by_cases h1 : a = 0
  · subst h1
    rw [if_pos (by decide), ob1_e, cnd_F]
    rfl
  · have n1 : ¬ nI a ≤ 0 := fun q => h1 ((nI_le0 (by omega)).mp q)
    by_cases h2 : 1000 ≤ a
    · have : (1000 : Int32) ≤ nI a := (nI_leI (a := 1000) (by omega) (by omega)).mpr h2
      rw [if_neg n1, if_pos this, ob1_e, cnd_F, decide_eq_false (by omega)]
      rfl
    · have : ¬ (1000 : Int32) ≤ nI a := fun q => h2 ((nI_leI (a := 1000) (by omega) (by omega)).mp q)
      rw [if_neg n1, if_neg this, ob1_e, cnd_T, decide_eq_true (by omega)]
      rfl
theorem PS.level {τ σ ζ κ : MS} {Φ Ψ : WS} {B T : Int} {k a : Nat} (h : PS τ B T σ ζ κ Φ Ψ) (hk : k < Sn τ) (ha : a ≤ 999) (hB : B ≤ 2000000000) (hB0 : 0 ≤ B) : PS τ (B + 999) T (u2 σ 3 k (σ 3 k + nI a)) ζ (u2 κ k 0 (σ 3 k + nI a)) Φ Ψ := by
  obtain ⟨h1, hW, h3⟩ := h
  refine ⟨h1.level hk, ?_, h3.up (by decide)⟩
  have en : (nI a).toInt = a := nI_toInt (by omega)
  have hlv := hW.1 k hk
  have hW' : WI (B + 999) T τ σ := hW.mono (by omega) (Int.le_refl _)
  obtain ⟨v1, v2⟩ := hlv
  refine ⟨fun k9 hk9 => ?_, fun j hj => ⟨fun t9 t1 t2 => ?_, ?_⟩, ?_, fun i => ?_⟩
  · rw [u2_at]
    split
    · unfold bd; rw [aI (by omega) (by omega), en]; omega
    · exact hW'.1 k9 hk9
  · rw [u2_n _ _ _ _ 10 t9 (by omega), u2_n _ _ _ _ 9 t9 (by omega), u2_n _ _ _ _ 12 t9 (by omega), u2_n _ _ _ _ 1 0 (by omega)]
    exact (hW'.2.1 j hj).1 t9 t1 t2
  · have := (hW'.2.1 j hj).2
    unfold LJ at this ⊢
    rw [u2_n _ _ _ _ 5 j (by omega), u2_n _ _ _ _ 6 j (by omega), u2_n _ _ _ _ 8 j (by omega)]
    exact ⟨this.1, this.2.1, this.2.2.1, fun q => by obtain ⟨s, a, b, c⟩ := this.2.2.2 q; exact ⟨s, a, b, by rw [u2_n _ _ _ _ 9 s (by omega)]; exact c⟩⟩
  · rw [u2_n _ _ _ _ 1 0 (by omega)]; exact hW'.2.2.1
  · rw [u2_n _ _ _ _ 1 0 (by omega), u2_n _ _ _ _ 1 i (by omega)]; exact hW'.2.2.2 i
section RG
variable {F u n : Nat} {τs : WS} {pa : PA} {β : FS} {υ : MS} {ω : WS} {sid : PA} {B T : Int} {ζ κ : MS} {Φ Ψ : WS} {Ns : PA} {l9 l8 l2 l16 l14 l12 : Int32} {l15 : Option Nat} {b : FS} {sd : MS} {pb : Nat → Option Nat} {pζ pκ : WS} {pΦ pΨ : Nat → WS} {pc0 : Nat}
theorem l_R400 (hF : 5000 ≤ F) (hs : SDok sid n) (hp : PAok pa) (hu : u ≤ 8) (h6 : υ 6 0 = nI u) (hI : SI (τs (sid 0))) (hP : PS (τs (sid 0)) B T (ω 0) ζ κ Φ Ψ) (hB0 : 0 ≤ B) (hB : B ≤ 1900000000) (hT : 0 ≤ T) : ok (mL_law_R400 F (Sn (τs (sid 0))) (Jn (τs (sid 0))) Ns l9 l8 l2 τs n pa β υ ω sid b sd ζ κ Φ Ψ pb pζ pκ pΦ pΨ pc0) (fun r => r.1 = 1 ∧ SR (τs (sid 0)) (B + 200000) (T + 24) n u pa υ ω sid r.2.1 r.2.2.1 r.2.2.2.1 r.2.2.2.2.1 r.2.2.2.2.2.1 ζ r.2.2.2.2.2.2.2 Φ Ψ) := by
  have hg := hs.g
  have hS := hI.S
  obtain ⟨k, sd2, hk, e1⟩ := below_ok F sd (b := Sn (τs (sid 0)) + 1) (by omega) (by omega)
  obtain ⟨q6, sd4, -, e2⟩ := below_ok F sd2 (b := 6) (by decide) (by decide)
  have hw : ∃ w : Nat, 1 ≤ w ∧ w ≤ 1100 ∧ (if nI q6 = 0 then some (1100 : Int32) else some (10 : Int32)) = some (nI w) := by
    by_cases q : nI q6 = 0
    · exact ⟨1100, by decide, by decide, if_pos q⟩
    · exact ⟨10, by decide, by decide, if_neg q⟩
  obtain ⟨w, w1, w2, e3⟩ := hw
  obtain ⟨a, sd12, ha, e4⟩ := below_ok F sd4 (b := w) w1 (by omega)
  have hm : PS (τs (sid 0)) (B + 200000) (T + 24) (ω 0) ζ κ Φ Ψ := hP.mono (by omega) (by omega)
  unfold mL_law_R400
  rw [show nI (Sn (τs (sid 0))) + (1 : Int32) = nI (Sn (τs (sid 0)) + 1) from nI_s _, e1, ob2_e, show mX4_below F sd2 (6 : Int32) = some (nI q6, sd4) from e2, ob2_e, e3, ob1_e, e4, ob2_e, isRight (by omega), ob1_e]
  by_cases hkS : k < Sn (τs (sid 0))
  · have hle : ¬ nI (Sn (τs (sid 0))) ≤ nI k := nle (by omega) (by omega) hkS
    simp only [if_neg hle]
    by_cases hx : 1 ≤ a ∧ a ≤ 999
    · obtain ⟨pa1, υ1, ω1, sid1, r1, r2⟩ := rem_c hF (β := β) (ω := ω) (τs := τs) hs hp hu h6
      rw [decide_eq_true hx, if_neg (show ¬ b01 true = 0 by decide), ob1_e, cnd_T, ob1_e, ob1_e, if_neg n1, hixn_at hkS (by omega), ob1_e, rk_0, ob1_e, wk_0, ob1_e, ob1_e, rk_0, u2_s, ob1_e, ob2_e, c_restR hs hI hkS hx.1 hx.2 r1 r2, hEl_R, (hP.1.lk hkS).1]
      simp only [ob1_e, xE_R, xV_R, if_true]
      refine ok_some ⟨rfl, Or.inr ⟨rfl, ω1, _, r2, rfl, ?_⟩⟩
      exact (hP.level hkS hx.2 (by omega) hB0).mono (by omega) (by omega)
    · rw [decide_eq_false hx, if_pos (show b01 false = 0 from rfl), ob1_e, cnd_F, ob1_e, ob1_e, if_pos rfl, ob2_e, c_restA hg hI hkS (by omega) hx, hEl_L (by simp)]
      simp only [ob1_e, xE_L, xV_L, xC4, if_true]
      exact ok_some ⟨rfl, Or.inl ⟨rfl, rfl, rfl, rfl, rfl, hm⟩⟩
  · have hkE : k = Sn (τs (sid 0)) := by omega
    have hle : nI (Sn (τs (sid 0))) ≤ nI k := by rw [hkE]; exact Int32.le_refl _
    simp only [if_pos hle]
    rw [ob1_e, cnd_F, ob1_e, ob1_e, if_pos rfl, ob2_e, hkE, c_restX hg hI, hEl_L (by simp)]
    simp only [ob1_e, xE_L, xV_L, xC2, if_true]
    exact ok_some ⟨rfl, Or.inl ⟨rfl, rfl, rfl, rfl, rfl, hm⟩⟩
theorem l_R557 (hF : 5000 ≤ F) (hs : SDok sid n) (hp : PAok pa) (hu : u ≤ 8) (h6 : υ 6 0 = nI u) (hI : SI (τs (sid 0))) (hN : NR (τs (sid 0)) Ns) (hP : PS (τs (sid 0)) B T (ω 0) ζ κ Φ Ψ) (hB0 : 0 ≤ B) (hB : B ≤ 1900000000) (hT : 0 ≤ T) (ht : TJ (τs (sid 0)) (ω 0) l15 l14 l16 l12) : ok (mL_law_R557 F (Sn (τs (sid 0))) (Jn (τs (sid 0))) Ns l16 l15 l14 l12 l9 l8 l2 τs n pa β υ ω sid b sd ζ κ Φ Ψ pb pζ pκ pΦ pΨ pc0) (fun r => r.1 = 1 ∧ SR (τs (sid 0)) (B + 200000) (T + 24) n u pa υ ω sid r.2.1 r.2.2.1 r.2.2.2.1 r.2.2.2.2.1 r.2.2.2.2.2.1 ζ r.2.2.2.2.2.2.1 r.2.2.2.2.2.2.2.1 r.2.2.2.2.2.2.2.2) := by
  have hg := hs.g
  have hm : PS (τs (sid 0)) (B + 200000) (T + 24) (ω 0) ζ κ Φ Ψ := hP.mono (by omega) (by omega)
  unfold mL_law_R557
  rcases ht with ⟨rfl, rfl, rfl, rfl⟩ | ⟨j, hj, rfl, rfl, rfl, rfl⟩
  · rw [if_pos rfl, ob4_e, c_setX hg hI, hEl_L (by simp)]
    simp only [ob1_e, xE_L, xV_L, xC5, if_true]
    exact ok_some ⟨rfl, Or.inl ⟨rfl, rfl, rfl, rfl, rfl, hm⟩⟩
  · by_cases h5 : ω 0 5 j = 5
    · obtain ⟨pa1, υ1, ω1, sid1, r1, r2⟩ := rem_c hF (β := β) (ω := ω) (τs := τs) hs hp hu h6
      obtain ⟨s, σ', s1, s2, s3, s4, s5, s6'⟩ := away (F := F) (v := 5) (μ := fun _ _ => 0) (w := fun _ => 0) hI hF (by omega) hP.2.1 hj h5 (Or.inl rfl)
      obtain ⟨i, rfl⟩ : ∃ i, s = An (τs (sid 0)) j + i := ⟨s - An (τs (sid 0)) j, by omega⟩
      have hA := hI.A hj
      have hNN := hI.N.2
      have ei : oI ((some (An (τs (sid 0)) j + i)).map (fun s => s - An (τs (sid 0)) j)) = nI i := by
        show nI (An (τs (sid 0)) j + i - An (τs (sid 0)) j) = nI i
        rw [Nat.add_sub_cancel_left]
      rw [Nat.add_sub_cancel_left] at s4
      obtain ⟨⟨κ1, Ψ1⟩, m1, m2⟩ := l_undoes (F := F) hI hN hP.1 hj s2
      rw [decide_eq_true h5, if_neg (show ¬ b01 true = 0 by decide), ob1_e, gLt_t hj, ob1_e, hN j hj, l_last hI (hP.1.lt hj) hj hF, s3, ei, ob1_e, ob1_e, gLt_t hj, ob1_e, hN j hj, hixn_at (show i < En (τs (sid 0)) j - An (τs (sid 0)) j by omega) (by omega), ob1_e, m1, ob2_e, ob1_e, gLt_t hj, ob1_e]
      unfold mX5_goesBack
      simp only [ob1_e, ob4_e]
      rw [c_setR hs hI hj h5 r1 r2 s4, hEl_R]
      simp only [ob1_e, xE_R, xV_R, if_true]
      refine ok_some ⟨rfl, Or.inr ⟨rfl, ω1, σ', r2, rfl, ?_, s5.mono (by omega) (by omega), ?_⟩⟩
      · rw [s6', if_pos rfl]
        exact LW.undo m2 hj
      · rw [s6', if_pos rfl]
        exact (((hP.2.2.up (by decide)).up (by decide)).up (by decide)).up (by decide)
    · rw [decide_eq_false h5, if_pos (show b01 false = 0 from rfl), ob4_e, c_setS hg hI hj h5, hEl_L (by simp)]
      simp only [ob1_e, xE_L, xV_L, xC6, if_true]
      exact ok_some ⟨rfl, Or.inl ⟨rfl, rfl, rfl, rfl, rfl, hm⟩⟩
theorem l_R611 (hF : 5000 ≤ F) (hs : SDok sid n) (hp : PAok pa) (hu : u ≤ 8) (h6 : υ 6 0 = nI u) (hI : SI (τs (sid 0))) (hN : NR (τs (sid 0)) Ns) (hP : PS (τs (sid 0)) B T (ω 0) ζ κ Φ Ψ) (hB0 : 0 ≤ B) (hB : B ≤ 1900000000) (hT : 0 ≤ T) (ht : TJ (τs (sid 0)) (ω 0) l15 l14 l16 l12) : ok (mL_law_R611 F (Sn (τs (sid 0))) (Jn (τs (sid 0))) Ns l16 l15 l14 l12 l9 l8 l2 τs n pa β υ ω sid b sd ζ κ Φ Ψ pb pζ pκ pΦ pΨ pc0) (fun r => r.1 = 1 ∧ SR (τs (sid 0)) (B + 200000) (T + 24) n u pa υ ω sid r.2.1 r.2.2.1 r.2.2.2.1 r.2.2.2.2.1 r.2.2.2.2.2.1 ζ κ r.2.2.2.2.2.2.1 r.2.2.2.2.2.2.2) := by
  have hg := hs.g
  have hm : PS (τs (sid 0)) (B + 200000) (T + 24) (ω 0) ζ κ Φ Ψ := hP.mono (by omega) (by omega)
  unfold mL_law_R611
  rcases ht with ⟨rfl, rfl, rfl, rfl⟩ | ⟨j, hj, rfl, rfl, rfl, rfl⟩
  · rw [if_pos rfl, ob3_e, c_wrX hg hI, hEl_L (by simp)]
    simp only [ob1_e, xE_L, xV_L, xC5, if_true]
    exact ok_some ⟨rfl, Or.inl ⟨rfl, rfl, rfl, rfl, rfl, hm⟩⟩
  · by_cases h5 : ω 0 5 j = 5
    · obtain ⟨pa1, υ1, ω1, sid1, r1, r2⟩ := rem_c hF (β := β) (ω := ω) (τs := τs) hs hp hu h6
      obtain ⟨s, σ', s1, s2, s3, s4, s5, s6'⟩ := away (F := F) (v := 6) (μ := fun _ _ => 0) (w := fun _ => 0) hI hF (by omega) hP.2.1 hj h5 (Or.inr rfl)
      obtain ⟨i, rfl⟩ : ∃ i, s = An (τs (sid 0)) j + i := ⟨s - An (τs (sid 0)) j, by omega⟩
      have hA := hI.A hj
      have hNN := hI.N.2
      have ei : oI ((some (An (τs (sid 0)) j + i)).map (fun s => s - An (τs (sid 0)) j)) = nI i := by
        show nI (An (τs (sid 0)) j + i - An (τs (sid 0)) j) = nI i
        rw [Nat.add_sub_cancel_left]
      rw [Nat.add_sub_cancel_left] at s4
      rw [decide_eq_true h5, if_neg (show ¬ b01 true = 0 by decide), ob1_e, gLt_t hj, ob1_e, hN j hj, l_last hI (hP.1.lt hj) hj hF, s3, ei, ob1_e, ob1_e, gLt_t hj, ob1_e, hN j hj, hixn_at (show i < En (τs (sid 0)) j - An (τs (sid 0)) j by omega) (by omega), ob1_e, wq_4, ob1_e, ob1_e, ob1_e, gLt_t hj, ob1_e]
      unfold mX5_goesBack
      simp only [ob1_e, ob3_e]
      rw [c_wrR hs hI hj h5 r1 r2 s4, hEl_R]
      simp only [ob1_e, xE_R, xV_R, if_true]
      refine ok_some ⟨rfl, Or.inr ⟨rfl, ω1, σ', r2, rfl, ?_, s5.mono (by omega) (by omega), ?_⟩⟩
      · rw [s6', if_neg (by decide)]
        exact LW.undo (hP.1.state hI hj s2 (by decide) (by decide)) hj
      · rw [s6', if_neg (by decide)]
        exact ((hP.2.2.up (by decide)).up (by decide)).up (by decide)
    · rw [decide_eq_false h5, if_pos (show b01 false = 0 from rfl), ob3_e, c_wrS hg hI hj h5, hEl_L (by simp)]
      simp only [ob1_e, xE_L, xV_L, xC6, if_true]
      exact ok_some ⟨rfl, Or.inl ⟨rfl, rfl, rfl, rfl, rfl, hm⟩⟩
end RG
