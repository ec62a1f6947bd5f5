/-! pure: the law's changes, the rest, and their choice -/
theorem ok_ob4 {α1 α2 α3 α4 γ : Type} {m : Option (α1 × α2 × α3 × α4)} {f : α1 → α2 → α3 → α4 → Option γ} {Q : γ → Prop} (h : ok m (fun x => ok (f x.1 x.2.1 x.2.2.1 x.2.2.2) Q)) : ok (ob4 m f) Q := ok_ob1 h
theorem ok_ob7 {α1 α2 α3 α4 α5 α6 α7 γ : Type} {m : Option (α1 × α2 × α3 × α4 × α5 × α6 × α7)} {f : α1 → α2 → α3 → α4 → α5 → α6 → α7 → Option γ} {Q : γ → Prop} (h : ok m (fun x => ok (f x.1 x.2.1 x.2.2.1 x.2.2.2.1 x.2.2.2.2.1 x.2.2.2.2.2.1 x.2.2.2.2.2.2) Q)) : ok (ob7 m f) Q := ok_ob1 h
theorem ok_ob8 {α1 α2 α3 α4 α5 α6 α7 α8 γ : Type} {m : Option (α1 × α2 × α3 × α4 × α5 × α6 × α7 × α8)} {f : α1 → α2 → α3 → α4 → α5 → α6 → α7 → α8 → Option γ} {Q : γ → Prop} (h : ok m (fun x => ok (f x.1 x.2.1 x.2.2.1 x.2.2.2.1 x.2.2.2.2.1 x.2.2.2.2.2.1 x.2.2.2.2.2.2.1 x.2.2.2.2.2.2.2) Q)) : ok (ob8 m f) Q := ok_ob1 h
theorem ok_ob9 {α1 α2 α3 α4 α5 α6 α7 α8 α9 γ : Type} {m : Option (α1 × α2 × α3 × α4 × α5 × α6 × α7 × α8 × α9)} {f : α1 → α2 → α3 → α4 → α5 → α6 → α7 → α8 → α9 → Option γ} {Q : γ → Prop} (h : ok m (fun x => ok (f x.1 x.2.1 x.2.2.1 x.2.2.2.1 x.2.2.2.2.1 x.2.2.2.2.2.1 x.2.2.2.2.2.2.1 x.2.2.2.2.2.2.2.1 x.2.2.2.2.2.2.2.2) Q)) : ok (ob9 m f) Q := ok_ob1 h
theorem ok_ob11 {α1 α2 α3 α4 α5 α6 α7 α8 α9 α10 α11 γ : Type} {m : Option (α1 × α2 × α3 × α4 × α5 × α6 × α7 × α8 × α9 × α10 × α11)} {f : α1 → α2 → α3 → α4 → α5 → α6 → α7 → α8 → α9 → α10 → α11 → Option γ} {Q : γ → Prop} (h : ok m (fun x => ok (f x.1 x.2.1 x.2.2.1 x.2.2.2.1 x.2.2.2.2.1 x.2.2.2.2.2.1 x.2.2.2.2.2.2.1 x.2.2.2.2.2.2.2.1 x.2.2.2.2.2.2.2.2.1 x.2.2.2.2.2.2.2.2.2.1 x.2.2.2.2.2.2.2.2.2.2) Q)) : ok (ob11 m f) Q := ok_ob1 h
theorem ok_ob17 {α1 α2 α3 α4 α5 α6 α7 α8 α9 α10 α11 α12 α13 α14 α15 α16 α17 γ : Type} {m : Option (α1 × α2 × α3 × α4 × α5 × α6 × α7 × α8 × α9 × α10 × α11 × α12 × α13 × α14 × α15 × α16 × α17)} {f : α1 → α2 → α3 → α4 → α5 → α6 → α7 → α8 → α9 → α10 → α11 → α12 → α13 → α14 → α15 → α16 → α17 → Option γ} {Q : γ → Prop} (h : ok m (fun x => ok (f x.1 x.2.1 x.2.2.1 x.2.2.2.1 x.2.2.2.2.1 x.2.2.2.2.2.1 x.2.2.2.2.2.2.1 x.2.2.2.2.2.2.2.1 x.2.2.2.2.2.2.2.2.1 x.2.2.2.2.2.2.2.2.2.1 x.2.2.2.2.2.2.2.2.2.2.1 x.2.2.2.2.2.2.2.2.2.2.2.1 x.2.2.2.2.2.2.2.2.2.2.2.2.1 x.2.2.2.2.2.2.2.2.2.2.2.2.2.1 x.2.2.2.2.2.2.2.2.2.2.2.2.2.2.1 x.2.2.2.2.2.2.2.2.2.2.2.2.2.2.2.1 x.2.2.2.2.2.2.2.2.2.2.2.2.2.2.2.2) Q)) : ok (ob17 m f) Q := ok_ob1 h
theorem fos_loop {f : Int32 → Option (Int32 ⊕ Int32)} {g : Nat} (h1 : ∀ v, v < g → f (nI v) = some (.inr (nI (v + 1)))) (h2 : f (nI g) = some (.inl (nI g))) (fu : Nat) (hfu : g < fu) : loopM f fu (0 : Int32) = some (nI g) := by
  have key : ∀ (n a fu : Nat), a + n = g → n < fu → loopM f fu (nI a) = some (nI g) := by
    intro n
    induction n with
    | zero =>
      intro a fu h3 h4
      obtain rfl : a = g := by omega
      exact loop_gol h2 (by omega)
    | succ n ih =>
      intro a fu h3 h4
      exact (loop_gen (h1 a (by omega)) (by omega)).trans (ih (a + 1) (fu - 1) (by omega) (by omega))
  exact key g 0 fu (by omega) hfu
theorem ago_opn {τ σ : MS} {s t : Nat} (h : t ≠ s) : agF τ s σ 9 t = σ 9 t := by
  unfold agF
  split
  · rw [u2_n _ _ _ _ _ _ (by omega), u2_n _ _ _ _ _ _ (by omega)]
  · rfl
theorem ags_opn {τ σ : MS} {j k t : Nat} (h : k ≤ t) : fo (agF τ) j k σ 9 (j + t) = σ 9 (j + t) :=
  fo_keepR (fun x : MS => x 9 (j + t)) (fun s x h1 h2 => ago_opn (by omega))
section RH
variable {F u n : Nat} {τs : WS} {pa : PA} {β : FS} {υ : MS} {ω : WS} {sid : PA} {B T : Int} {ζ κ : MS} {Φ Ψ : WS} {Ns : PA} {l9 l8 l2 l16 l14 l12 : Int32} {l15 : Option Nat} {b : FS} {sd : MS} {pb : Nat → Option Nat} {pζ pκ : WS} {pΦ pΨ : Nat → WS} {pc0 : Nat}
set_option maxHeartbeats 4000000 in
theorem l_R664 (hF : 5000 ≤ F) (hs : SDok sid n) (hp : PAok pa) (hu : u ≤ 8) (h6 : υ 6 0 = nI u) (hI : SI (τs (sid 0))) (hM : SM (τs (sid 0))) (hR16 : R16 (τs (sid 0))) (hN : NR (τs (sid 0)) Ns) (hP : PS (τs (sid 0)) B T (ω 0) ζ κ Φ Ψ) (hB0 : 0 ≤ B) (hB : B ≤ 1900000000) (hT : 0 ≤ T) (ht : TJ (τs (sid 0)) (ω 0) l15 l14 l16 l12) : ok (mL_law_R664 F (Sn (τs (sid 0))) (Jn (τs (sid 0))) Ns l16 l15 l14 l12 l9 l8 l2 τs n pa β υ ω sid b sd ζ κ Φ Ψ pb pζ pκ pΦ pΨ pc0) (fun r => r.1 = 1 ∧ SR (τs (sid 0)) (B + 200000) (T + 24) n u pa υ ω sid r.2.1 r.2.2.1 r.2.2.2.1 r.2.2.2.2.1 r.2.2.2.2.2.1 ζ κ r.2.2.2.2.2.2.1 r.2.2.2.2.2.2.2) := by
  have hg := hs.g
  have hm : PS (τs (sid 0)) (B + 200000) (T + 24) (ω 0) ζ κ Φ Ψ := hP.mono (by omega) (by omega)
  unfold mL_law_R664
  rcases ht with ⟨rfl, rfl, rfl, rfl⟩ | ⟨j, hj, rfl, rfl, rfl, rfl⟩
  · rw [if_pos rfl, ob3_e, c_goX hg hI, hEl_L (by simp)]
    simp only [ob1_e, xE_L, xV_L, xC5, if_true]
    exact ok_some ⟨rfl, Or.inl ⟨rfl, rfl, rfl, rfl, rfl, hm⟩⟩
  · by_cases h5 : ω 0 5 j = 5
    · obtain ⟨pa1, υ1, ω1, sid1, r1, r2⟩ := rem_c hF (β := β) (ω := ω) (τs := τs) hs hp hu h6
      have hA := hI.A hj
      have hNN := hI.N.2
      have hC := hI.C hj
      have h9 := hM.2.2 j hj
      have eC : Φ j 1 0 = nI (Cn (τs (sid 0)) j) := by rw [(hP.1.lj hj).2.1, hC.1]
      rw [decide_eq_true h5, if_neg (show ¬ b01 true = 0 by decide)]
      refine ok_ob3 (ok_mono (P := fun x => ∃ σ', mX2_letGoForward F (τs (sid 0)) (ω 0) (nI j) = some (x.1, σ') ∧ PS (τs (sid 0)) B T σ' ζ κ x.2.1 x.2.2) ?_ (fun x hx => ?_))
      · rcases fwd hI hF hR16 hP.2.1 hP.2.2 hj with ⟨f1, f2⟩ | ⟨g, g1, g2, g3, g4, g5, g6, g7⟩
        · rw [fos_loop (g := Cn (τs (sid 0)) j) ?h1 ?h2 8 (by omega)]
          case h1 =>
            intro v hv
            unfold mL_law_L676
            rw [ob1_e, gLt_t hj, ob1_e, eC, if_neg (nle (by omega) (by omega) hv), ob1_e, gLt_t hj, ob1_e, hN j hj, l_fin hI (hP.1.lt hj) hj hF, f2 v hv, ob1_e, if_neg (show ¬ b01 true = 0 by decide), ob1_e, cnd_T, nI_s]
          case h2 =>
            unfold mL_law_L676
            rw [ob1_e, gLt_t hj, ob1_e, eC, if_pos (Int32.le_refl _), ob1_e, cnd_F]
          rw [ob1_e, ob1_e, gLt_t hj, ob1_e, eC, if_pos rfl, ob1_e, if_pos (by decide)]
          exact ok_some ⟨_, f1, hP⟩
        · rw [fos_loop (g := g) ?h1 ?h2 8 (by omega)]
          case h1 =>
            intro v hv
            unfold mL_law_L676
            rw [ob1_e, gLt_t hj, ob1_e, eC, if_neg (nle (by omega) (by omega) (by omega)), ob1_e, gLt_t hj, ob1_e, hN j hj, l_fin hI (hP.1.lt hj) hj hF, g2 v hv, ob1_e, if_neg (show ¬ b01 true = 0 by decide), ob1_e, cnd_T, nI_s]
          case h2 =>
            unfold mL_law_L676
            rw [ob1_e, gLt_t hj, ob1_e, eC, if_neg (nle (by omega) (by omega) g1), ob1_e, gLt_t hj, ob1_e, hN j hj, l_fin hI (hP.1.lt hj) hj hF, g3, ob1_e, if_pos (show b01 false = 0 from rfl), ob1_e, cnd_F]
          have hgC : ¬ nI g = nI (Cn (τs (sid 0)) j) := fun q => by have := (nI_i (by omega) (by omega)).mp q; omega
          rw [ob1_e, ob1_e, gLt_t hj, ob1_e, eC, if_neg hgC, ob1_e, if_neg (nI_nl0 (by omega)), ob1_e, gLt_t hj, ob1_e, hN j hj]
          refine ok_ob1 (ok_mono (P := fun Ψ1 => LW (τs (sid 0)) (fo (agF (τs (sid 0))) (An (τs (sid 0)) j) (En (τs (sid 0)) j - An (τs (sid 0)) j) (ω 0)) ζ κ Φ Ψ1) ?_ (fun Ψ1 hΨ1 => ?_))
          · refine loop_rel (fun k Ψ1 => LW (τs (sid 0)) (fo (agF (τs (sid 0))) (An (τs (sid 0)) j) k (ω 0)) ζ κ Φ Ψ1) (En (τs (sid 0)) j - An (τs (sid 0)) j) (fun k Ψ1 hk h => ?_) (fun Ψ1 h => ?_) (En (τs (sid 0)) j - An (τs (sid 0)) j) 0 12 Ψ (by omega) (by omega) hP.1
            · dsimp only
              have hik : An (τs (sid 0)) j + k < En (τs (sid 0)) j := by omega
              have hG := hC.2.2.2.1 (An (τs (sid 0)) j + k) (by omega) (by omega)
              have e : fo (agF (τs (sid 0))) (An (τs (sid 0)) j) (k + 1) (ω 0) = agF (τs (sid 0)) (An (τs (sid 0)) j + k) (fo (agF (τs (sid 0))) (An (τs (sid 0)) j) k (ω 0)) := fo_end _ _ _ _
              have e9 : fo (agF (τs (sid 0))) (An (τs (sid 0)) j) k (ω 0) 9 (An (τs (sid 0)) j + k) = ω 0 9 (An (τs (sid 0)) j + k) := ags_opn (Nat.le_refl _)
              have hgo := g4 (An (τs (sid 0)) j + k) (by omega) hik
              have hop : opn (fo (agF (τs (sid 0))) (An (τs (sid 0)) j) k (ω 0)) (An (τs (sid 0)) j + k) = opn (ω 0) (An (τs (sid 0)) j + k) := by unfold opn; rw [e9]
              rw [← hop] at hgo
              rw [e]
              generalize fo (agF (τs (sid 0))) (An (τs (sid 0)) j) k (ω 0) = σ1 at h hgo ⊢
              obtain ⟨a1, a2, a3, a4, a5, a6, a7, a8, a9, a10⟩ := h.ls hj hik
              unfold mL_law_L740 agF
              rw [if_neg (nle (by omega) (by omega) hk), hN j hj, hixn_at hk (by omega), ob1_e, rq_0, ob1_e, a1, hG.1, rq_4, ob1_e, ob1_e, a5]
              cases ho : opn σ1 (An (τs (sid 0)) j + k) with
              | true =>
                have hge := hgo ho
                have hno : σ1 9 (An (τs (sid 0)) j + k) ≠ 3 ∧ σ1 9 (An (τs (sid 0)) j + k) ≠ 6 := by unfold opn at ho; exact of_decide_eq_true ho
                have hgt : ¬ nI (Gn (τs (sid 0)) (An (τs (sid 0)) j + k)) < nI g := fun q => by have := (nI_ltI (by omega) (by omega)).mp q; omega
                have h1 := h.state (v := 0) hI hj hik (by decide) (by decide)
                have e7 := (h1.ls hj hik).2.2.2.2.2.2.2.1
                rw [if_neg hgt, if_neg hno.1, ob1_e, cnd_T, if_neg hno.2, wq_4, ob1_e, ob1_e, rq_7, ob1_e, wq_6, ob1_e, ob1_e, ob1_e, nI_s, if_pos rfl]
                have e7' : va_up Ψ1 j (u2 (Ψ1 j) k 4 0) j k 7 = τs (sid 0) 16 (An (τs (sid 0)) j + k) := e7
                rw [e7']
                exact ok_some ⟨_, rfl, h1.rep hI hj hik⟩
              | false =>
                have hx : (ob1 (ob1 (if nI (Gn (τs (sid 0)) (An (τs (sid 0)) j + k)) < nI g then some false else if σ1 9 (An (τs (sid 0)) j + k) = 3 then some false else some true) fun t91 => cnd t91 (if σ1 9 (An (τs (sid 0)) j + k) = 6 then some Ψ1 else ob1 (wra (Ψ1 j) k 9 (4 : Int32) (0 : Int32)) fun ψ98 => ob1 (some (va_up Ψ1 j ψ98)) fun Ψ99 => ob1 (rd (Ψ99 j k) 9 (7 : Int32)) fun x100 => ob1 (wra (Ψ99 j) k 9 (6 : Int32) x100) fun ψ101 => ob1 (some (va_up Ψ99 j ψ101)) fun Ψ102 => some Ψ102) (some Ψ1)) fun Ψ88 => some (Sum.inr (nI k + (1 : Int32), Ψ88)) : Option (WS ⊕ (Int32 × WS))) = some (.inr (nI k + 1, Ψ1)) := by
                  rcases opn_F.mp ho with q | q
                  · by_cases q2 : nI (Gn (τs (sid 0)) (An (τs (sid 0)) j + k)) < nI g
                    · rw [if_pos q2, ob1_e, cnd_F, ob1_e]
                    · rw [if_neg q2, if_pos q, ob1_e, cnd_F, ob1_e]
                  · by_cases q2 : nI (Gn (τs (sid 0)) (An (τs (sid 0)) j + k)) < nI g
                    · rw [if_pos q2, ob1_e, cnd_F, ob1_e]
                    · rw [if_neg q2, if_neg (by rw [q]; decide), ob1_e, cnd_T, if_pos q, ob1_e]
                rw [hx, nI_s, if_neg (by decide)]
                exact ok_some ⟨_, rfl, h⟩
            · dsimp only
              unfold mL_law_L740
              rw [if_pos (Int32.le_refl _)]
              exact ok_some ⟨_, rfl, h⟩
          · simp only [ob1_e]
            rw [gLt_t hj, ob1_e, ob1_e, va_up_self, va_uu, va_up_self, hN j hj]
            have hf := LW.forw (v := nI g) hΨ1 hj
            have hlt : nI g < τs (sid 0) 7 j := by rw [hC.1]; exact (nI_ltI (by omega) (by omega)).mpr g1
            obtain ⟨⟨φ3, ψ3⟩, l3, r3, r4⟩ := l_opens (F := F) (φ := pf (pf (Φ j) 2 1) 4 (-1)) (Φ0 := Φ) (p := nI g) hI hf hj (u2_s _ _ _ _) hF
            have r3 : φ3 = pf (pf (pf (Φ j) 2 1) 4 (-1)) 3 (nI g) := r3
            subst r3
            rw [l3, ob2_e, va_uu]
            refine ok_some ⟨_, g5, ?_, g6, g7⟩
            unfold entF
            rw [if_pos hlt]
            exact r4
      · obtain ⟨σ', x1, x2⟩ := hx
        rw [c_goR hs hI hj h5 r1 r2 x1, hEl_R]
        simp only [ob1_e, xE_R, xV_R, if_true]
        exact ok_some ⟨rfl, Or.inr ⟨rfl, ω1, σ', r2, rfl, x2.mono (by omega) (by omega)⟩⟩
    · rw [decide_eq_false h5, if_pos (show b01 false = 0 from rfl), ob3_e, c_goS hg hI hj h5, hEl_L (by simp)]
      simp only [ob1_e, xE_L, xV_L, xC6, if_true]
      exact ok_some ⟨rfl, Or.inl ⟨rfl, rfl, rfl, rfl, rfl, hm⟩⟩
theorem l_R843 (hF : 5000 ≤ F) (hs : SDok sid n) (hp : PAok pa) (hu : u ≤ 8) (h6 : υ 6 0 = nI u) (hI : SI (τs (sid 0))) (hM : SM (τs (sid 0))) (hN : NR (τs (sid 0)) Ns) (hP : PS (τs (sid 0)) B T (ω 0) ζ κ Φ Ψ) (hB0 : 0 ≤ B) (hB : B ≤ 1900000000) (hT : 0 ≤ T) (hT2 : T + 24 ≤ 9999) : ok (mL_law_R843 F (Sn (τs (sid 0))) (Jn (τs (sid 0))) Ns l9 l8 l2 τs n pa β υ ω sid b sd ζ κ Φ Ψ pb pζ pκ pΦ pΨ pc0) (fun r => r.1 = 1 ∧ SR (τs (sid 0)) (B + 200000) (T + 24) n u pa υ ω sid r.2.1 r.2.2.1 r.2.2.2.1 r.2.2.2.2.1 r.2.2.2.2.2.1 r.2.2.2.2.2.2.2.1 r.2.2.2.2.2.2.2.2.1 r.2.2.2.2.2.2.2.2.2.1 r.2.2.2.2.2.2.2.2.2.2) := by
  have hg := hs.g
  obtain ⟨q5, sd2, -, e1⟩ := below_ok F sd (b := 5) (by decide) (by decide)
  have hw : ∃ w : Nat, 1 ≤ w ∧ w ≤ 25 ∧ (if nI q5 = 0 then some (25 : Int32) else some (5 : Int32)) = some (nI w) := by
    by_cases q : nI q5 = 0
    · exact ⟨25, by decide, by decide, if_pos q⟩
    · exact ⟨5, by decide, by decide, if_neg q⟩
  obtain ⟨w, w1, w2, e3⟩ := hw
  obtain ⟨t, sd8, ht, e4⟩ := below_ok F sd2 (b := w) w1 (by omega)
  unfold mL_law_R843
  rw [show mX4_below F sd (5 : Int32) = some (nI q5, sd2) from e1, ob2_e, e3, ob1_e, e4, ob2_e, l_jin hI hP.1 hF, l_jin hI hP.1 hF]
  have hv : (if nI t ≤ 0 then some (0 : Int32) else some (1 : Int32)) = some (b01 (decide (1 ≤ t))) := by
    by_cases q : t = 0
    · subst q; rfl
    · rw [if_neg (fun z => q ((nI_le0 (by omega)).mp z)), decide_eq_true (by omega)]; rfl
  rw [hv]
  simp only [ob1_e]
  refine ok_ob4 (ok_mono (P := fun x => PS (τs (sid 0)) (B + 7992 * (t : Int)) (T + t) (runT (τs (sid 0)) stN t (ω 0)) x.1 x.2.1 x.2.2.1 x.2.2.2) ?_ (fun x hx => ?_))
  · refine ok_mono (P := fun x : MS × MS × WS × WS => LW (τs (sid 0)) (runT (τs (sid 0)) stN t (ω 0)) x.1 x.2.1 x.2.2.1 x.2.2.2) ?_ (fun x hx => ⟨hx, run_inv hI t (ω 0) B T hP.2.1 (by omega) (by omega), run_RI hI t (ω 0) hP.2.2⟩)
    refine loop_rel (fun k (x : MS × MS × WS × WS) => LW (τs (sid 0)) (runT (τs (sid 0)) stN k (ω 0)) x.1 x.2.1 x.2.2.1 x.2.2.2) t (fun k x hk h => ?_) (fun x h => ?_) t 0 26 (ζ, κ, Φ, Ψ) (by omega) (by omega) hP.1
    · obtain ⟨ζ1, κ1, Φ1, Ψ1⟩ := x
      dsimp only
      have h : LW (τs (sid 0)) (runT (τs (sid 0)) stN k (ω 0)) ζ1 κ1 Φ1 Ψ1 := h
      have hW := run_inv (st := stN) hI k (ω 0) B T hP.2.1 (by omega) (by omega)
      obtain ⟨⟨ζ2, κ2, Φ2, Ψ2⟩, l1, l2⟩ := l_tick (F := F) hI hM hN (by omega) hW (run_RI hI k (ω 0) hP.2.2) h hF
      unfold mL_law_L895
      rw [if_neg (nle (by omega) (by omega) hk), l1, ob4_e, nI_s, runT_e]
      exact ok_some ⟨_, rfl, l2⟩
    · obtain ⟨ζ1, κ1, Φ1, Ψ1⟩ := x
      dsimp only
      unfold mL_law_L895
      rw [if_pos (Int32.le_refl _)]
      exact ok_some ⟨_, rfl, h⟩
  · obtain ⟨ζ1, κ1, Φ1, Ψ1⟩ := x
    dsimp only at hx ⊢
    by_cases h0 : 1 ≤ t
    · obtain ⟨pa1, υ1, ω1, sid1, r1, r2⟩ := rem_c hF (β := β) (ω := ω) (τs := τs) hs hp hu h6
      rw [c_passR hF hs hI h0 (by omega) hP.2.1 hB0 (by omega) (by omega) r1 r2, hEl_R, decide_eq_true h0, if_neg (show ¬ b01 true = 0 by decide), l_jin hI hx.1 hF, l_jin hI hx.1 hF]
      simp only [ob1_e, xE_R, xV_R, if_true]
      exact ok_some ⟨rfl, Or.inr ⟨rfl, ω1, _, r2, rfl, hx.mono (by omega) (by omega)⟩⟩
    · obtain rfl : t = 0 := by omega
      rw [c_passA, hEl_L (by simp), decide_eq_false h0, if_pos (show b01 false = 0 from rfl)]
      simp only [ob1_e, xE_L, xV_L, xC1, if_true]
      exact ok_some ⟨rfl, Or.inl ⟨rfl, rfl, rfl, rfl, rfl, hx.mono (by omega) (by omega)⟩⟩
theorem l_R362 (hF : 5000 ≤ F) (hs : SDok sid n) (hp : PAok pa) (hu : u ≤ 8) (h6 : υ 6 0 = nI u) (hI : SI (τs (sid 0))) (hM : SM (τs (sid 0))) (hR16 : R16 (τs (sid 0))) (hN : NR (τs (sid 0)) Ns) (hP : PS (τs (sid 0)) B T (ω 0) ζ κ Φ Ψ) (hB0 : 0 ≤ B) (hB : B ≤ 1900000000) (hT : 0 ≤ T) (hT2 : T + 24 ≤ 9999) (ht : TJ (τs (sid 0)) (ω 0) l15 l14 l16 l12) : ok (mL_law_R362 F (Sn (τs (sid 0))) (Jn (τs (sid 0))) Ns l16 l15 l14 l12 l9 l8 l2 τs n pa β υ ω sid b sd ζ κ Φ Ψ pb pζ pκ pΦ pΨ pc0) (fun r => r.1 = 1 ∧ SR (τs (sid 0)) (B + 200000) (T + 24) n u pa υ ω sid r.2.1 r.2.2.1 r.2.2.2.1 r.2.2.2.2.1 r.2.2.2.2.2.1 r.2.2.2.2.2.2.2.1 r.2.2.2.2.2.2.2.2.1 r.2.2.2.2.2.2.2.2.2.1 r.2.2.2.2.2.2.2.2.2.2) := by
  obtain ⟨q, sd2, -, e1⟩ := below_ok F sd (b := 9) (by decide) (by decide)
  unfold mL_law_R362
  rw [show mX4_below F sd (9 : Int32) = some (nI q, sd2) from e1, ob2_e]
  refine ok_ite (fun _ => ?_) (fun _ => ok_ite (fun _ => ?_) (fun _ => ok_ite (fun _ => ?_) (fun _ => ok_ite (fun _ => ?_) (fun _ => ?_))))
  · exact ok_ob8 (ok_mono (l_R400 hF hs hp hu h6 hI hP hB0 hB hT) (fun x hx => ok_some hx))
  · exact ok_ob9 (ok_mono (l_R557 hF hs hp hu h6 hI hN hP hB0 hB hT ht) (fun x hx => ok_some hx))
  · exact ok_ob8 (ok_mono (l_R611 hF hs hp hu h6 hI hN hP hB0 hB hT ht) (fun x hx => ok_some hx))
  · exact ok_ob8 (ok_mono (l_R664 hF hs hp hu h6 hI hM hR16 hN hP hB0 hB hT ht) (fun x hx => ok_some hx))
  · exact ok_ob11 (ok_mono (l_R843 hF hs hp hu h6 hI hM hN hP hB0 hB hT hT2) (fun x hx => ok_some hx))
end RH
