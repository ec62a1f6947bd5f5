/-! pure: load -/
theorem X0.SI {τ : MS} {f5 f6 o : Int32} {d : FS} (h : X0 τ f5 f6 d o) : SI τ := by
  obtain ⟨⟨b1, b2, b3, b4, b5, b6, b7, b8, b9, b10, b11⟩, x1, J, x2, x3, x4, x5, x6, x7⟩ := h
  have hJn : Jn τ = J := by unfold Jn; rw [x2, nv_nI (by omega)]
  refine ⟨b1, ⟨by rw [hJn]; exact x2, by rw [hJn]; exact x3⟩, b2, fun j hj => ?_, ⟨?_, fun j hj => ?_⟩, b9, fun k hk => (b10 k hk).2.2, fun j hj => ?_, fun s hs => (b11 s hs).2⟩
  · rw [hJn] at hj
    obtain ⟨a, b, c, d, -⟩ := (x5 j hj).1
    exact ⟨a, b, c, d⟩
  · unfold Bn
    rw [hJn]
    by_cases q : 0 < J
    · rw [if_pos q, (x5 0 q).2.2]; rfl
    · rw [if_neg q, ← x7, show J = 0 by omega]; rfl
  · rw [hJn] at hj
    unfold Bn
    rw [hJn]
    by_cases q : j + 1 < J
    · rw [if_pos q, (x5 (j + 1) q).2.2]
      unfold prevE
      rw [if_neg (by omega), Nat.add_sub_cancel]
    · rw [if_neg q, ← x7, show J = j + 1 by omega]
      unfold prevE
      rw [if_neg (by omega), Nat.add_sub_cancel]
  · rw [hJn] at hj
    obtain ⟨a, b, c, d, e, f, g, i, k⟩ := (x5 j hj).1
    exact ⟨e, f, g, i, k⟩
/-- a new world of a setup -/
def beg (τ σ : MS) : MS := pf (pf (va_up (va_up (pf (pf (pf (pf (pf (va_up (pf (pf σ 1 0) 2 0) 3 (τ 3)) 5 0) 6 0) 7 0) 8 0) 9 0) 10 (τ 15)) 11 (τ 16)) 12 0) 13 0
theorem c_begin (F : Nat) (τ σ : MS) : mX2_begin F τ σ = some (beg τ σ) := rfl
theorem beg_c (τ σ : MS) : (∀ i, beg τ σ 1 i = 0) ∧ beg τ σ 2 0 = 0 ∧ beg τ σ 3 = τ 3 ∧ (∀ c i, (5 ≤ c ∧ c ≤ 9) ∨ c = 12 ∨ c = 13 → beg τ σ c i = 0) ∧ beg τ σ 10 = τ 15 ∧ beg τ σ 11 = τ 16 := by
  refine ⟨fun _ => rfl, rfl, rfl, fun c i hc => ?_, rfl, rfl⟩
  rcases (show c = 5 ∨ c = 6 ∨ c = 7 ∨ c = 8 ∨ c = 9 ∨ c = 12 ∨ c = 13 by omega) with rfl | rfl | rfl | rfl | rfl | rfl | rfl <;> rfl
theorem X0.rel {τ σ : MS} {f5 f6 o : Int32} {d : FS} (h : X0 τ f5 f6 d o) : Rel τ (beg τ σ) d := by
  have hS := h.SI
  obtain ⟨⟨b1, b2, b3, b4, b5, b6, b7, b8, b9, b10, b11⟩, x1, J, x2, x3, x4, x5, x6, x7⟩ := h
  have hJn : Jn τ = J := by unfold Jn; rw [x2, nv_nI (by omega)]
  obtain ⟨g1, g2, g3, g4, g5, g6⟩ := beg_c τ σ
  refine ⟨⟨by rw [b3, g1], b5, by rw [x4, x2], b6, b7, b8, by rw [b4, g2]⟩, fun k hk => ?_, fun j hj => ?_, fun s hs => ?_⟩
  · obtain ⟨r1, r2, -⟩ := b10 k hk
    exact ⟨by rw [r1, g3], r2⟩
  · rw [hJn] at hj
    obtain ⟨r1, r2, r3, r4, r5, r6, r7⟩ := (x5 j hj).2.1
    have z5 : beg τ σ 5 j = 0 := g4 5 j (by decide)
    unfold relJ
    rw [z5]
    exact ⟨r1, r2, r3, r4, fun q => absurd q (by decide), fun _ => r5, fun q => absurd q (by decide), fun _ => r6, r7, fun q => absurd q (by decide)⟩
  · obtain ⟨r1, r2, r3, r4, r5, r6, r7, r8⟩ := (b11 s hs).1
    have z9 : beg τ σ 9 s = 0 := g4 9 s (by decide)
    unfold relS
    rw [z9, g5, g6]
    exact ⟨r1, r2, r3, r4, r5, r6, r7, r8, fun q => absurd q (by decide), fun q => absurd q (by decide)⟩
theorem X0.wi {τ σ : MS} {f5 f6 o : Int32} {d : FS} {B : Int} (h : X0 τ f5 f6 d o) (hB : 9999 ≤ B) : WI B 9999 τ (beg τ σ) := by
  have hS := h.SI
  obtain ⟨g1, g2, g3, g4, g5, g6⟩ := beg_c τ σ
  refine ⟨fun k hk => by rw [g3]; exact (hS.L hk).wide (Int.le_refl _) hB, fun j hj => ⟨fun s s1 s2 => ?_, ?_⟩, ?_, fun i => by rw [g1, g1]⟩
  · have z9 : beg τ σ 9 s = 0 := g4 9 s (by decide)
    rw [z9, g5]
    exact ⟨(hS.K (hS.sN hj s2)).2.2.2.2, fun q => absurd q (by decide)⟩
  · have z5 : beg τ σ 5 j = 0 := g4 5 j (by decide)
    unfold LJ
    rw [z5]
    exact ⟨⟨by decide, by decide⟩, fun q => absurd q (by decide), fun q => absurd q (by decide), fun q => absurd q (by decide)⟩
  · rw [g1]; exact ⟨by decide, by decide⟩
theorem m_lay {F : Nat} (hF : 5000 ≤ F) (f : FS) : ∃ g : FS, mX4_layUsual F f = some g ∧ ∀ x, x < 451 → g x = dInit x := by
  have hl := loop_up (f := fun st : Int32 × FS => mX4_layUsual_L2 F st.1 st.2) (fun _ _ => True) (fun k f => upd f k 0) (fun f => f) 451 (fun k x hk _ => ⟨by
    show mX4_layUsual_L2 F (nI k) x = _
    unfold mX4_layUsual_L2
    rw [if_neg (i32_nle (c := 451) (b := 451) rfl (by omega) (by decide) hk), wr_at hk (by decide), ob1_e, nI_s], trivial⟩) (fun x _ => by
    show mX4_layUsual_L2 F (nI 451) x = _
    unfold mX4_layUsual_L2
    rw [if_pos (by decide)]) 451 0 F f (by omega) (by omega) trivial
  have h0 : ∀ (n a : Nat) (f : FS) (x : Nat), fo (fun k f => upd f k 0) a n f x = if a ≤ x ∧ x < a + n then 0 else f x := by
    intro n
    induction n with
    | zero => intro a f x; rw [if_neg (by omega)]; rfl
    | succ n ih =>
      intro a f x
      show fo (fun k f => upd f k 0) (a + 1) n (upd f a 0) x = _
      rw [ih]
      by_cases q : x = a
      · subst q
        rw [if_neg (by omega), if_pos (by omega)]
        simp [upd]
      · by_cases q2 : a + 1 ≤ x ∧ x < a + 1 + n
        · rw [if_pos q2, if_pos (by omega)]
        · rw [if_neg q2, if_neg (by omega)]; simp [upd, q]
  have w4 : ∀ (f : FS) (v : Int32), wr f 451 (4 : Int32) v = some (upd f 4 v) := fun f v => wr_at (k := 4) (by decide) (by decide)
  have w5 : ∀ (f : FS) (v : Int32), wr f 451 (5 : Int32) v = some (upd f 5 v) := fun f v => wr_at (k := 5) (by decide) (by decide)
  refine ⟨upd (upd (fo (fun k f => upd f k 0) 0 451 f) 4 5) 5 3, ?_, fun x hx => ?_⟩
  · unfold mX4_layUsual
    rw [show loopM (fun st : Int32 × FS => mX4_layUsual_L2 F st.1 st.2) F ((0 : Int32), f) = some (fo (fun k f => upd f k 0) 0 451 f) from hl, ob1_e, w4, ob1_e, w5, ob1_e]
  · have hx0 := h0 451 0 f x
    rw [if_pos (by omega)] at hx0
    generalize fo (fun k f => upd f k 0) 0 451 f = z at hx0
    unfold dInit upd
    by_cases q5 : x = 5
    · rw [if_pos q5, if_neg (by omega), if_pos q5]
    · rw [if_neg q5]
      by_cases q4 : x = 4
      · rw [if_pos q4, if_pos q4]
      · rw [if_neg q4, if_neg q4, if_neg q5, hx0]
theorem X0_start {d : FS} (hd : ∀ x, x < 451 → d x = dInit x) : X0 τ0 0 0 d 0 := by
  have e2 : Sn τ0 = 0 := rfl
  have e10 : Nn τ0 = 0 := rfl
  refine ⟨⟨⟨rfl, by rw [e2]; decide⟩, ⟨rfl, by rw [e10]; decide⟩, ?_, ?_, ?_, ?_, ?_, ?_, ⟨by decide, by decide⟩, fun k hk => ?_, fun s hs => ?_⟩, ⟨0, 0, by decide, by decide, rfl, rfl, rfl⟩, 0, rfl, by decide, ?_, fun j hj => absurd hj (by omega), fun j _ hj => ?_, rfl⟩
  · rw [hd 0 (by decide)]; rfl
  · rw [hd 6 (by decide)]; rfl
  · rw [hd 1 (by decide)]; rfl
  · rw [hd 3 (by decide)]; rfl
  · rw [hd 4 (by decide)]; rfl
  · rw [hd 5 (by decide)]; rfl
  · rw [e2] at hk; omega
  · rw [e10] at hs; omega
  · rw [hd 2 (by decide)]; rfl
  · rw [hd _ (by omega)]
    unfold dInit
    rw [if_neg (by omega), if_neg (by omega)]
theorem gL_at {sid : PA} {n : Nat} (h : ∀ v, v < 10 → sid v < n) : gL sid n = some () := by
  unfold gL
  rw [if_pos]
  rw [List.all_eq_true]
  intro v hv
  exact decide_eq_true (h v (List.mem_range.mp hv))
theorem HI.mid {WR : MS → MS → FS → Prop} {τs : WS} {n : Nat} {pa : PA} {β : FS} {υ υ1 : MS} {ω : WS} {sid : PA} {μ μ1 : MS} (h : HI WR τs n pa β υ ω sid μ) (h1 : υ1 1 0 = 0) (h2 : υ1 2 0 = μ1 7 0) (h6 : υ1 6 = υ 6) (m2 : μ1 2 0 = 0) (hm : ∀ q, q = 8 ∨ q = 12 ∨ 20 ≤ q → μ1 q = μ q) : HI WR τs n pa β υ1 ω sid μ1 := by
  obtain ⟨-, -, a3, a4, a5, a7, u, a8, a9, a10, a11⟩ := h
  refine ⟨⟨0, by decide, h1, m2, fun k hk => absurd hk (by omega)⟩, h2, a3, a4, a5, by rw [hm 8 (by decide)]; exact a7, u, a8, by rw [h6]; exact a9, by rw [hm 12 (by decide)]; exact a10, fun j hj => by rw [hm (20 + j) (by omega)]; exact a11 j hj⟩
theorem p_load {F : Nat} {B B' : Int} (hF : 5000 ≤ F) (hB0 : 9999 ≤ B) (hB : B ≤ B') : ag_load F (HI (WRB B)) (HI (WRB B')) := by
  intro τs n pa β υ ω sid μ hI i
  have hmn := WRB.mono (B := B) (B' := B') hB
  obtain ⟨len, d1, d2, d3, d4⟩ := hI.1
  have hin := m_in (F := F) (m := len + 1) (i := i) (lo := 0) (hi := nI len) rfl (by rw [nI_m1 (by omega), Nat.add_sub_cancel]) (by omega)
  have hc : (if i < (0 : Int32) then some true else (if i ≤ (υ 1 0) then some false else some true)) = some (outW i (nI (len + 1))) := by
    rw [d2]
    unfold outW
    by_cases h1 : i < 0
    · simp [h1]
    · have : i ≤ nI len ↔ i < nI (len + 1) := by rw [leI, ltI, nI_toInt (by omega), nI_toInt (by omega)]; omega
      by_cases h2 : i < nI (len + 1)
      · simp [h1, h2, this.mpr h2]
      · have h3 : ¬ i ≤ nI len := fun q => h2 (this.mp q)
        simp [h1, h2, h3]
  have hz2 : pf μ 0 0 2 0 = nI len := by rw [pfo _ _ 2 (by decide)]; exact d3
  cases hw : outW i (nI (len + 1)) with
  | true =>
    refine ⟨.inl "java/lang/IllegalArgumentException", 0, pf μ 0 1, ?_, by simp, ?_, th0 _ _ _, (by simp), fun _ _ => (hI.p0 _).mono hmn, fun _ h => (by cases h)⟩
    · unfold mX3_load; rw [hc, hw, ob1_e, cnd_T]
    · unfold mX4_load
      rw [ob1_e, hz2, hin, hw, ob1_e, b01_n, ob1_e, m_fails (pf00 _ _) (by decide), ob2_e, if_neg (by decide), if_pos rfl, pf0f]
  | false =>
    obtain ⟨L, hL, rfl⟩ := outW_F rfl (by omega) hw
    obtain ⟨g, l1, l2⟩ := m_lay hF (μ 9)
    -- the reference's state before the text
    have hν : ∃ ν, ν = va_up (pf (pf (pf (pf (pf (pf (pf μ 0 0) 2 0) 3 (nI L)) 4 0) 5 0) 6 (-1)) 14 0) 9 g := ⟨_, rfl⟩
    obtain ⟨ν, hν⟩ := hν
    have v0 : ν 0 0 = 0 := by rw [hν]; rfl
    have v2 : ν 2 0 = 0 := by rw [hν]; rfl
    have v3 : ν 3 0 = nI L := by rw [hν]; rfl
    have v4 : ν 4 0 = 0 := by rw [hν]; rfl
    have v5 : ν 5 0 = 0 := by rw [hν]; rfl
    have v6 : ν 6 0 = -1 := by rw [hν]; rfl
    have v14 : ν 14 0 = 0 := by rw [hν]; rfl
    have v9 : ν 9 = g := by rw [hν]; rfl
    have vo : ∀ q, q ≠ 0 → q ≠ 2 → q ≠ 3 → q ≠ 4 → q ≠ 5 → q ≠ 6 → q ≠ 9 → q ≠ 14 → ν q = μ q := fun q a b c d e f g h => by
      rw [hν]
      funext x
      rw [va_up_ne _ _ g, pf_n _ _ _ _ _ h, pf_n _ _ _ _ _ f, pf_n _ _ _ _ _ e, pf_n _ _ _ _ _ d, pf_n _ _ _ _ _ c, pf_n _ _ _ _ _ b, pf_n _ _ _ _ _ a]
    have hBT : BT β (μ 1) L := ⟨by omega, fun k hk => d4 k (by omega)⟩
    have hρ4 : ρ0 (nI L) 4 0 = nI L := by
      show (if 0 < (if (700 : Int32) < nI L then 700 else nI L) then (if (700 : Int32) < nI L then 700 else nI L) else 0) = nI L
      have h7 : ¬ (700 : Int32) < nI L := fun q => absurd ((nI_ltI (a := 700) (by decide) (by omega)).mp q) (by omega)
      rw [if_neg h7]
      by_cases q : (0 : Int32) < nI L
      · rw [if_pos q]
      · rw [if_neg q]
        have : L = 0 := by
          rcases (show L = 0 ∨ 0 < L by omega) with r | r
          · exact r
          · exact absurd ((nI_ltI (a := 0) (by decide) (by omega)).mpr r) q
        rw [this]; rfl
    obtain ⟨τ1, ρ1, μ41, r1, r2, r3⟩ := PR.text (F := F) (β := β) (T := μ 1) (L := L) (τ := τ0) (ρ := ρ0 (nI L)) (μ := ν) hF hBT (fun k hk q => by
      rcases (hBT.2 k hk).cases with ⟨-, a, -⟩ | ⟨-, a, -⟩
      · rw [q] at a; exact absurd a (by decide)
      · rw [q] at a; exact absurd a (by decide)) hρ4 rfl rfl rfl ⟨v3, vo 1 (by decide) (by decide) (by decide) (by decide) (by decide) (by decide) (by decide) (by decide), v4, v5, v6⟩ (by rw [v9, v14]; exact X0_start l2) ⟨⟨0, rfl, by decide⟩, ⟨0, rfl, by decide⟩, ⟨0, rfl, by decide⟩⟩
    obtain ⟨⟨-, -, -, f4⟩, -⟩ := id r3.1
    have hυ : ∃ υ2, υ2 = pf (pf υ 1 0) 2 (ρ1 2 0) := ⟨_, rfl⟩
    obtain ⟨υ2, hυ⟩ := hυ
    have hm46 : ∀ q, q ≠ 7 → pf μ41 7 (μ41 6 0) q = μ41 q := fun q hq => by funext x; rw [pf_n _ _ _ _ _ hq]
    have hmid : HI (WRB B) τs n pa β υ2 ω sid (pf μ41 7 (μ41 6 0)) := by
      refine hI.mid ?_ ?_ ?_ ?_ (fun q hq => ?_)
      · rw [hυ]; rfl
      · rw [hυ, pf_at, if_pos rfl, pf_at, if_pos rfl]; exact r3.2.2.1
      · rw [hυ]; rfl
      · rw [hm46 2 (by decide), f4 2 (by decide) (by decide) (by decide) (by decide) (by decide) (by decide)]; exact v2
      · rw [hm46 q (by omega), f4 q (by omega) (by omega) (by omega) (by omega) (by omega) (by omega), vo q (by omega) (by omega) (by omega) (by omega) (by omega) (by omega) (by omega) (by omega)]
    have h46_0 : pf μ41 7 (μ41 6 0) 0 0 = 0 := by
      rw [hm46 0 (by decide), f4 0 (by decide) (by decide) (by decide) (by decide) (by decide) (by decide)]; exact v0
    have h46_5 : pf μ41 7 (μ41 6 0) 5 0 = μ41 5 0 := by rw [hm46 5 (by decide)]
    -- the reference's call up to the end of its text
    have hM : mX4_load F μ (nI L) = ob1 (mX4_isGood F (pf μ41 7 (μ41 6 0))) fun r47 => (if r47 = 0 then some ((pf μ41 7 (μ41 6 0) 5 0), pf μ41 7 (μ41 6 0)) else ob1 (mX4_remember F (pf μ41 7 (μ41 6 0))) fun μ50 => ob1 (mX4_copy F (μ50 9) (μ50 8)) fun f51 => ob1 (some (va_up μ50 8 f51)) fun μ52 => ob1 (rd (μ52 8) 451 (2 : Int32)) fun x53 => some (x53, μ52)) := by
      unfold mX4_load
      rw [ob1_e, hz2, hin, hw, ob1_e, b01_n, ob1_e, m_fails (pf00 _ _) (by decide), ob2_e, if_pos (by decide), if_neg (by decide), ob1_e, ob1_e, ob1_e, ob1_e, ob1_e, ob1_e]
      have hlay : mX4_layUsual F (pf (pf (pf (pf (pf (pf (pf μ 0 0) 2 0) 3 (nI L)) 4 0) 5 0) 6 (-1)) 14 0 9) = some g := l1
      rw [hlay, ob1_e, ob1_e, ← hν]
      obtain ⟨a, ha⟩ : ∃ a, mX4_takeWord F ν 9 = some a := by
        cases q : mX4_takeWord F ν 9 with
        | none => rw [q] at r2; cases r2
        | some a => exact ⟨a, rfl⟩
      rw [ha] at r2 ⊢
      obtain ⟨r21, μ22⟩ := a
      rw [ob2_e] at r2 ⊢
      cases q : (if r21 = 0 then ob1 (mX4_report F μ22 (-2 : Int32) (μ22 4 0)) fun μ28 => some μ28 else some μ22) with
      | none => rw [q] at r2; cases r2
      | some μ24 =>
        rw [q, ob1_e] at r2
        rw [ob1_e]
        cases q2 : mX4_expect F μ24 (59 : Int32) with
        | none => rw [q2] at r2; cases r2
        | some μ29 =>
          rw [q2, ob1_e] at r2
          rw [ob1_e, r2, ob1_e, ob1_e]
    have hC : mX3_load F τs n pa β υ ω sid (nI L) = (if (ρ1 1 0) = (0 : Int32) then ob4 (mX3_remember F τs n pa β υ2 ω sid) fun pa3 υ3 ω3 sid3 => ob1 (gL sid3 n) fun _ => ob1 (mX2_begin F τ1 (ω3 0)) fun σ4 => some (.inr (τ1 5 0, pa3, υ3, va_up ω3 0 σ4, va_up sid3 0 n, va_up τs n τ1, n + 1)) else some (.inr (ρ1 1 0, pa, υ2, ω, sid, τs, n))) := by
      unfold mX3_load
      rw [hc, hw, ob1_e, cnd_F, r1, ob2_e, ob1_e, ob1_e, ← hυ]
    by_cases hg : μ41 5 0 = 0
    · have hρ : ρ1 1 0 = 0 := r3.2.1.trans hg
      obtain ⟨-, hX⟩ := r3.2.2.2 hg
      obtain ⟨pa3, υ3, ω3, sid3, μ50, g1, g2, g3, g4, g5, g6, g7⟩ := rem_ok (F := F) (by omega) (WRB_s B) hmid
      obtain ⟨f51, e1, e2⟩ := copy_fr hF (μ50 9) (μ50 8)
      have h9 : μ50 9 = μ41 9 := by rw [g7 9 (by decide), hm46 9 (by decide)]
      have hd2 : va_up μ50 8 f51 8 2 = τ1 5 0 := by
        rw [va_up_self, e2 2 (by decide), h9]
        obtain ⟨-, -, J, q1, -, q2, -⟩ := hX
        rw [q1, q2]
      refine ⟨.inr (τ1 5 0, pa3, υ3, va_up ω3 0 (beg τ1 (ω3 0)), va_up sid3 0 n, va_up τs n τ1, n + 1), τ1 5 0, va_up μ50 8 f51, ?_, by simp, ?_, ?_, ?_, fun _ h => (by cases h), fun x hx => ?_⟩
      · rw [hC, if_pos hρ, g1, ob4_e, gL_at g3.2.2.1, ob1_e, c_begin, ob1_e]
      · rw [hM, m_goodT (h46_5.trans hg), ob1_e, if_neg (show ¬ (1 : Int32) = 0 by decide), g2, ob1_e, e1, ob1_e, ob1_e, rG2, hd2, ob1_e]
      · unfold mX4_thrown
        rw [va_up_ne _ _ (by decide), g7 0 (by decide), h46_0]
        rfl
      · intro x hx; cases hx; rfl
      · cases hx
        show HI (WRB B') (va_up τs n τ1) (n + 1) pa3 β υ3 (va_up ω3 0 (beg τ1 (ω3 0))) (va_up sid3 0 n) (va_up μ50 8 f51)
        obtain ⟨⟨len', q1, q2, q3, q4⟩, a2, a3, a4, a5, a7, u, a8, a9, a10, a11⟩ := g3
        refine ⟨⟨len', q1, q2, by rw [va_up_ne _ _ (by decide)]; exact q3, fun k hk => by rw [va_up_ne _ _ (by decide)]; exact q4 k hk⟩, by rw [va_up_ne _ _ (by decide)]; exact a2, fun v hv => ?_, a4, a5, ?_, u, a8, a9, by rw [va_up_ne _ _ (by decide)]; exact a10, fun j hj => ?_⟩
        · by_cases q : v = 0
          · rw [q, va_up_self]; omega
          · rw [va_up_ne _ _ q]; have := a3 v hv; omega
        · rw [va_up_self, va_up_self, va_up_self, va_up_self]
          exact ⟨hX.SI, hX.rel.d451 hX.SI (fun x hx => by rw [e2 x hx, h9]), hX.wi (by omega)⟩
        · have hp := a4 j (by omega)
          have hs := a3 (pa3 j) hp.2
          rw [va_up_ne _ _ (show pa3 j ≠ 0 by omega), va_up_ne _ _ (show pa3 j ≠ 0 by omega), va_up_ne _ _ (show sid3 (pa3 j) ≠ n by omega), va_up_ne _ _ (show 20 + j ≠ 8 by omega)]
          exact hmn _ _ _ (a11 j hj)
    · have hρ : ¬ ρ1 1 0 = 0 := fun q => hg (r3.2.1.symm.trans q)
      refine ⟨.inr (ρ1 1 0, pa, υ2, ω, sid, τs, n), ρ1 1 0, pf μ41 7 (μ41 6 0), ?_, by simp, ?_, ?_, ?_, fun _ h => (by cases h), fun x hx => ?_⟩
      · rw [hC, if_neg hρ]
      · rw [hM, m_goodF (by rw [h46_5]; exact hg), ob1_e, if_pos rfl, h46_5, r3.2.1]
      · unfold mX4_thrown
        rw [h46_0]
        rfl
      · intro x hx; cases hx; rfl
      · cases hx
        show HI (WRB B') τs n pa β υ2 ω sid (pf μ41 7 (μ41 6 0))
        exact hmid.mono hmn
