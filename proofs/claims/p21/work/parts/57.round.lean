/-! pure: a start, its changes, its undoing -/
theorem SI_0 : SI τ0 := by
  have e2 : Sn τ0 = 0 := by decide
  have e5 : Jn τ0 = 0 := by decide
  have e10 : Nn τ0 = 0 := by decide
  refine ⟨⟨by rw [e2]; rfl, by omega⟩, ⟨by rw [e5]; rfl, by omega⟩, ⟨by rw [e10]; rfl, by omega⟩, fun j hj => absurd hj (by omega), ⟨?_, fun j hj => absurd hj (by omega)⟩, ⟨by decide, by decide⟩, fun k hk => absurd hk (by omega), fun j hj => absurd hj (by omega), fun s hs => absurd hs (by omega)⟩
  unfold Bn
  rw [if_neg (by omega)]
  exact e10
theorem Sn_0 : Sn τ0 = 0 := by decide
theorem Jn_0 : Jn τ0 = 0 := by decide
theorem SM_0 : SM τ0 := ⟨by rw [Sn_0]; decide, by rw [Jn_0]; decide, fun j hj => absurd hj (by rw [Jn_0]; omega)⟩
theorem NR_0 (Ns : PA) : NR τ0 Ns := fun j hj => absurd hj (by rw [Jn_0]; omega)
theorem LW_0 (κ : MS) (Φ Ψ : WS) : LW τ0 σ0 ζ0 κ Φ Ψ := ⟨⟨rfl, rfl, rfl, rfl⟩, fun k hk => absurd hk (by rw [Sn_0]; omega), fun j hj => absurd hj (by rw [Jn_0]; omega), fun j hj => absurd hj (by rw [Jn_0]; omega)⟩
theorem WI_0 {B T : Int} (hT : 0 ≤ T) : WI B T τ0 σ0 := ⟨fun k hk => absurd hk (by rw [Sn_0]; omega), fun j hj => absurd hj (by rw [Jn_0]; omega), ⟨by decide, by show (0 : Int32).toInt ≤ T; exact hT⟩, fun _ => rfl⟩
theorem jin_0 (σ : MS) (p : Int32) : jin τ0 σ p = 0 := by
  unfold jin
  rw [Jn_0]
  rfl
section RO
variable {F n dn : Nat} {τs : WS} {pa : PA} {β : FS} {υ : MS} {ω : WS} {sid : PA} {B T : Int} {ζ κ : MS} {Φ Ψ : WS} {Ns : PA} {l9 l8 l2 : Int32} {b : FS} {sd : MS} {pb : Nat → Option Nat} {pζ pκ : WS} {pΦ pΨ : Nat → WS} {pc0 : Nat}
/-- what holds after x changes are undone -/
def UI (τ : MS) (B T : Int) (τs : WS) (n : Nat) (pa : PA) (pb : Nat → Option Nat) (pζ pκ : WS) (pΦ pΨ : Nat → WS) (pc0 dn x : Nat) (υ : MS) (ω : WS) (sid : PA) : Prop := τs (sid 0) = τ ∧ SDok sid n ∧ υ 1 0 = 0 ∧ ∃ u, u ≤ 8 ∧ υ 6 0 = nI u ∧ ∀ y, x ≤ y → y < 8 → y < dn → y - x < u ∧ τs (sid (pa (u - 1 - (y - x)))) = τ ∧ ∃ id, pb y = some id ∧ id < pc0 ∧ PS τ B T (ω (pa (u - 1 - (y - x)))) (pζ id) (pκ id) (pΦ id) (pΨ id)
theorem l_undos {τ : MS} {f : Int32 × Int32 × MS × WS × PA → Option ((Int32 × MS × WS × PA) ⊕ (Int32 × Int32 × MS × WS × PA))} (hF : 5000 ≤ F) (hI : SI τ) (hM : SM τ) (hN : NR τ Ns) (hp : PAok pa) (hdn : dn ≤ 1000) (hf : ∀ k v υ ω sid, f (k, v, υ, ω, sid) = mL_law_L1023 F (Sn τ) (Jn τ) Ns (nI dn) l2 τs n pa β b sd ζ κ Φ Ψ pb pζ pκ pΦ pΨ pc0 k v υ ω sid) (h : UI τ B T τs n pa pb pζ pκ pΦ pΨ pc0 dn 0 υ ω sid) : ok (loopM f 9 ((0 : Int32), (1 : Int32), υ, ω, sid)) (fun r => r.1 = 1 ∧ ∃ x, UI τ B T τs n pa pb pζ pκ pΦ pΨ pc0 dn x r.2.1 r.2.2.1 r.2.2.2) := by
  refine loop_relX (f := f) (fun x (y : Int32 × MS × WS × PA) => y.1 = 1 ∧ UI τ B T τs n pa pb pζ pκ pΦ pΨ pc0 dn x y.2.1 y.2.2.1 y.2.2.2) 8 (fun x y hx hR => ?_) (fun y hR => ?_) 8 0 9 (1, υ, ω, sid) (by omega) (by omega) ⟨rfl, h⟩
  · obtain ⟨v, υ, ω, sid⟩ := y
    obtain ⟨h1, hτ, hs, h10, u, hu, h6, hpast⟩ := hR
    have h1 : v = 1 := h1
    subst h1
    have h6 : υ 6 0 = nI u := h6
    rw [hf]
    unfold mL_law_L1023
    rw [if_neg (i32_nle (c := 8) (b := 8) rfl (by omega) (by decide) hx)]
    by_cases hxd : x < dn
    · rw [if_neg (nle (by omega) (by omega) hxd), if_neg n1, ob1_e, cnd_T]
      obtain ⟨p1, p2, id, p3, p4, p5⟩ := hpast x (Nat.le_refl _) hx hxd
      rw [Nat.sub_self] at p1 p2 p5
      obtain ⟨σ1, c1, c2⟩ := undo_c (F := F) (τs := τs) (β := β) (ω := ω) hs hp hu (by omega) h6
      have e0 : va_up ω 0 σ1 0 = σ1 := va_up_self _ _ _
      have hτ1 : τs (va_up sid 0 (sid (pa (u - 1))) 0) = τ := by rw [va_up_self]; exact p2
      have hpv := hp.1 (u - 1) (by omega)
      have hs1 : SDok (va_up sid 0 (sid (pa (u - 1)))) n := fun v hv => by
        by_cases q : v = 0
        · subst q; rw [va_up_self]; exact hs _ hpv.2
        · rw [va_up_ne _ _ q]; exact hs v hv
      have hPS : PS τ B T σ1 (pζ id) (pκ id) (pΦ id) (pΨ id) := p5.cpy c2
      have hag : mL_agrees F (Sn τ) (Jn τ) Ns τs n pa β (pf υ 6 (nI (u - 1))) (va_up ω 0 σ1) (va_up sid 0 (sid (pa (u - 1)))) (pζ id) (pκ id) (pΦ id) (pΨ id) = some 1 := by
        have := l_agrees (F := F) (τs := τs) (n := n) (pa := pa) (β := β) (υ := pf υ 6 (nI (u - 1))) (ω := va_up ω 0 σ1) (sid := va_up sid 0 (sid (pa (u - 1)))) (ζ := pζ id) (κ := pκ id) (Φ := pΦ id) (Ψ := pΨ id) (Ns := Ns) hF hs1.g (by rw [hτ1]; exact hI) (by rw [hτ1]; exact hM) (by rw [hτ1]; exact hN) (by rw [hτ1, e0]; exact hPS.1) (fun j hj => by rw [hτ1] at hj; rw [e0]; exact (hPS.2.1.2.1 j hj).2.1)
        rw [hτ1] at this
        exact this
      rw [c1, ob4_e, if_neg (nI_nl0 (by omega)), hixn_at (show x < 9 by omega) (by decide), ob1_e, p3, ob1_e, gLt_t p4, ob1_e, hag, ob1_e, if_neg n1, ob1_e, cnd_T, ob1_e, nI_s]
      refine ok_some (Or.inr ⟨_, rfl, rfl, hτ1, hs1, ?_, u - 1, by omega, ?_, fun y hy hy8 hyd => ?_⟩)
      · show pf υ 6 (nI (u - 1)) 1 0 = 0
        rw [pf_n _ _ _ _ _ (by decide)]; exact h10
      · show pf υ 6 (nI (u - 1)) 6 0 = nI (u - 1)
        rw [pf_at, if_pos rfl]
      · obtain ⟨r1, r2, id2, r3, r4, r5⟩ := hpast y (by omega) hy8 hyd
        have e : u - 1 - 1 - (y - (x + 1)) = u - 1 - (y - x) := by omega
        have hv2 := hp.1 (u - 1 - (y - x)) (by omega)
        dsimp only
        rw [e, va_up_ne _ _ (show pa (u - 1 - (y - x)) ≠ 0 by omega), va_up_ne _ _ (show pa (u - 1 - (y - x)) ≠ 0 by omega)]
        exact ⟨by omega, r2, id2, r3, r4, r5⟩
    · rw [if_pos ((nI_leI (by omega) (by omega)).mpr (by omega)), ob1_e, cnd_F]
      exact ok_some (Or.inl ⟨_, rfl, rfl, x, hτ, hs, h10, u, hu, h6, hpast⟩)
  · obtain ⟨v, υ, ω, sid⟩ := y
    rw [hf]
    unfold mL_law_L1023
    rw [if_pos (by decide), ob1_e, cnd_F]
    exact ok_some ⟨_, rfl, hR.1, 8, hR.2⟩
theorem out_m1 {τ : MS} : outJ τ (-1) = true := by
  unfold outJ
  rw [show decide ((-1 : Int32) < 0) = true from by decide]; rfl
theorem l_R1020 {τ : MS} (hF : 5000 ≤ F) (hI : SI τ) (hM : SM τ) (hN : NR τ Ns) (hdn : dn ≤ 1000) (hMI : MI τ B T τs n pa υ ω sid ζ κ Φ Ψ pb pζ pκ pΦ pΨ pc0 dn) : ok (mL_law_R1020 F (Sn τ) (Jn τ) Ns (nI dn) l2 1 τs n pa β υ ω sid b sd ζ κ Φ Ψ pb pζ pκ pΦ pΨ pc0) (fun r => r.1 = 1) := by
  obtain ⟨hτ, hs, hp, hP, hpb, h10, u, hu, h6, hpast⟩ := hMI
  unfold mL_law_R1020
  refine ok_ob4 (ok_mono (l_undos (τ := τ) (B := B) (T := T) hF hI hM hN hp hdn (fun _ _ _ _ _ => rfl) ⟨hτ, hs, h10, u, hu, h6, fun y _ h8 hd => hpast y h8 hd⟩) (fun x hx => ?_))
  obtain ⟨v, υ1, ω1, sid1⟩ := x
  obtain ⟨h1, x, k1, k2, k3, -⟩ := hx
  have h1 : v = 1 := h1
  subst h1
  have k1 : τs (sid1 0) = τ := k1
  have k2 : SDok sid1 n := k2
  have k3 : υ1 1 0 = 0 := k3
  dsimp only
  have hld : mX3_load F τs n pa β υ1 ω1 sid1 (1 : Int32) = some (.inl "java/lang/IllegalArgumentException") := by
    unfold mX3_load
    rw [k3, if_neg (by decide), if_neg (by decide), ob1_e, cnd_T]
  have how : mX3_owed F τs n pa β υ1 ω1 sid1 (-1 : Int32) (0 : Int32) = some (.inl "java/lang/IndexOutOfBoundsException") := by
    unfold mX3_owed
    rw [c_ckJ k2.g, ift out_m1, obX_L]
  have o8 : outJ (τs (sid1 0)) (8 : Int32) = true := by
    rw [k1]
    have h := hI.J
    show outW (nI 8) (τ 5 0) = true
    rw [h.1]
    exact outW_o h.2 (by omega)
  have hri : mX3_restsIn F τs n pa β υ1 ω1 sid1 (8 : Int32) = some (.inl "java/lang/IndexOutOfBoundsException") := by
    unfold mX3_restsIn
    rw [c_ckJ k2.g, ift o8, obX_L]
  have hsa : mX3_stateAfter F τs n pa β υ1 ω1 sid1 (-1 : Int32) (0 : Int32) = some (.inl "java/lang/IndexOutOfBoundsException") := by
    unfold mX3_stateAfter
    rw [c_ckJ k2.g, ift out_m1, obX_L]
  have hhe : mX3_help F τs n pa β υ1 ω1 sid1 (-1 : Int32) (0 : Int32) = some (.inl "java/lang/IndexOutOfBoundsException") := by
    unfold mX3_help
    rw [c_ckJ k2.g, ift out_m1, obX_L]
  have x1 : xC [("java/lang/IndexOutOfBoundsException", (-2000000097 : Int32)), ("java/util/NoSuchElementException", (-2000000100 : Int32))] "java/lang/IndexOutOfBoundsException" = -2000000097 := by simp [xC]
  have x2 : xC [("java/lang/IndexOutOfBoundsException", (-2000000097 : Int32))] "java/lang/IndexOutOfBoundsException" = -2000000097 := by simp [xC]
  rw [if_neg n1, hld, hEl_L (by simp)]
  simp only [ob1_e, xE_L, xV_L, xC1, if_true]
  rw [how, hEl_L (by simp)]
  simp only [ob1_e, xE_L, xV_L, x1, if_true]
  rw [hri, hEl_L (by simp)]
  simp only [ob1_e, xE_L, xV_L, x2, if_true]
  rw [hsa, hEl_L (by simp)]
  simp only [ob1_e, xE_L, xV_L, xC2, if_true]
  rw [hhe, hEl_L (by simp)]
  simp only [ob1_e, xE_L, xV_L, x2, if_true]
  exact ok_some rfl
end RO
