/-! pure: the random world -/
theorem bf_18 : ∀ m r, 18 ≤ bf m r
  | 0, _ => Nat.le_refl _
  | m + 1, r => Nat.le_max_left _ _
theorem tStk_len {f : FS} (h : StkOK f) : (tStk f).length ≤ 12 := by
  obtain ⟨_, h1, _, _, h2⟩ := h
  unfold tStk
  rw [List.length_append, List.length_append, List.length_append, List.length_append, dn_len, dn_len, show (sN 10).length = 6 from by decide, show (sN 11).length = 1 from by decide, show (sN 12).length = 1 from by decide, nd_1 (show nv (f 1) < 10 by omega)]
  have := nd_3 (nv (f 0))
  omega
section WO
variable {F n K mT ct nS : Nat} {τs : WS} {pa : PA} {υ0 : MS} {ω : WS} {sid : PA} {s0 : List Nat} {ζ κ φ ψ : MS} {Ns : PA} {Φ Ψ : WS} {rF : FS}
theorem s_stocks (hF : 5000 ≤ F) : ∀ (w G Kc : Nat) (β : FS) (υ : MS) (b : FS) (sd κ : MS), w + Kc ≤ 3 → w < G → WU (s0 ++ catR (tKs κ) 0 Kc) β υ b υ0 → (∀ k, k < Kc → StkOK (κ k)) → (s0 ++ catR (tKs κ) 0 Kc).length + 12 * w ≤ 700 → ok (loopM (fun st : Int32 × FS × MS × FS × MS × MS × Nat => mL_randomWorld_L22 F τs n pa ω sid ζ mT ct Ns Φ Ψ φ ψ nS st.1 st.2.1 st.2.2.1 st.2.2.2.1 st.2.2.2.2.1 st.2.2.2.2.2.1 st.2.2.2.2.2.2) G (nI w, β, υ, b, sd, κ, Kc)) (fun x => WU (s0 ++ catR (tKs x.2.2.2.2.1) 0 x.2.2.2.2.2) x.1 x.2.1 x.2.2.1 υ0 ∧ (∀ k, k < x.2.2.2.2.2 → StkOK (x.2.2.2.2.1 k)) ∧ x.2.2.2.2.2 = Kc + w ∧ Rs x.2.2.2.1 = itn (4 * w) (Rs sd) ∧ (s0 ++ catR (tKs x.2.2.2.2.1) 0 x.2.2.2.2.2).length ≤ (s0 ++ catR (tKs κ) 0 Kc).length + 12 * w) := by
  intro w
  induction w with
  | zero =>
    intro G Kc β υ b sd κ h1 h2 h3 h4 h5
    obtain ⟨G, rfl⟩ : ∃ m, G = m + 1 := ⟨G - 1, by omega⟩
    rw [loopM_l (b := (β, υ, b, sd, κ, Kc)) (by
      show mL_randomWorld_L22 F τs n pa ω sid ζ mT ct Ns Φ Ψ φ ψ nS (nI 0) β υ b sd κ Kc = _
      unfold mL_randomWorld_L22
      rw [if_pos (by decide)])]
    exact ok_some ⟨h3, h4, rfl, rfl, Nat.le_refl _⟩
  | succ w ih =>
    intro G Kc β υ b sd κ h1 h2 h3 h4 h5
    obtain ⟨G, rfl⟩ : ∃ m, G = m + 1 := ⟨G - 1, by omega⟩
    obtain ⟨q1, sd1, a1, a2, a3, -, -⟩ := dr F sd (b := 3) (by decide) (by decide)
    obtain ⟨q2, sd2, b1, b2, b3, -, -⟩ := dr F sd1 (b := if q1 = 0 then 1000 else 20) (by split <;> decide) (by split <;> decide)
    obtain ⟨q3, sd3, c1, c2, c3, -, -⟩ := dr F sd2 (b := 2) (by decide) (by decide)
    obtain ⟨q4, sd4, d1, d2, d3, -, -⟩ := dr F sd3 (b := if q3 = 0 then 2 else 9) (by split <;> decide) (by split <;> decide)
    have hq2 : q2 < 1000 := by split at b2 <;> omega
    have hq4 : q4 < 9 := by split at d2 <;> omega
    have hr : Rs sd4 = itn 4 (Rs sd) := by rw [d3, c3, b3, a3]; rfl
    have hv1 : (if nI q1 = (0 : Int32) then some (1000 : Int32) else some (20 : Int32)) = some (nI (if q1 = 0 then 1000 else 20)) := by
      by_cases z : q1 = 0
      · rw [if_pos z, z]; rfl
      · rw [if_neg z, if_neg (show ¬ nI q1 = (0 : Int32) from fun y => z ((nI_i (b := 0) (by omega) (by decide)).mp y))]; rfl
    have hv2 : (if nI q3 = (0 : Int32) then some (2 : Int32) else some (9 : Int32)) = some (nI (if q3 = 0 then 2 else 9)) := by
      by_cases z : q3 = 0
      · rw [if_pos z, z]; rfl
      · rw [if_neg z, if_neg (show ¬ nI q3 = (0 : Int32) from fun y => z ((nI_i (b := 0) (by omega) (by decide)).mp y))]; rfl
    have w0 : ∀ (f : FS) (v : Int32), wr f 2 (0 : Int32) v = some (upd f 0 v) := fun f v => wr_at (k := 0) (by decide) (by decide)
    have w1 : ∀ (f : FS) (v : Int32), wr f 2 (1 : Int32) v = some (upd f 1 v) := fun f v => wr_at (k := 1) (by decide) (by decide)
    generalize hf : upd (upd (fun _ => 0) 0 (nI q2)) 1 (nI (1 + q4)) = f
    have x0 : f 0 = nI q2 := by rw [← hf]; rfl
    have x1 : f 1 = nI (1 + q4) := by rw [← hf]; rfl
    have y0 : nv (f 0) = q2 := by rw [x0, nv_nI (by omega)]
    have y1 : nv (f 1) = 1 + q4 := by rw [x1, nv_nI (by omega)]
    have hS : StkOK f := ⟨by rw [y0]; exact x0, by omega, by rw [y1]; exact x1, by omega, by omega⟩
    have hκ : ∀ k, k < Kc → va_up κ Kc f k = κ k := fun k hk => va_up_ne _ _ (by omega)
    have hκn : va_up κ Kc f Kc = f := va_up_self ..
    have htx : s0 ++ catR (tKs (va_up κ Kc f)) 0 (Kc + 1) = s0 ++ catR (tKs κ) 0 Kc ++ sN 10 ++ dn q2 ++ sN 11 ++ dn (1 + q4) ++ sN 12 := by
      rw [catR_s, Nat.zero_add, catR_congr (g := tKs (va_up κ Kc f)) (g' := tKs κ) Kc 0 (fun k _ hk => by show tStk _ = tStk _; rw [hκ k (by omega)])]
      show s0 ++ (catR (tKs κ) 0 Kc ++ tStk (va_up κ Kc f Kc)) = _
      rw [hκn]
      unfold tStk
      rw [y0, y1]
      simp only [List.append_assoc]
    have hlen := tStk_len hS
    have hlen2 : (s0 ++ catR (tKs (va_up κ Kc f)) 0 (Kc + 1)).length = (s0 ++ catR (tKs κ) 0 Kc).length + (tStk f).length := by
      rw [catR_s, Nat.zero_add, catR_congr (g := tKs (va_up κ Kc f)) (g' := tKs κ) Kc 0 (fun k _ hk => by show tStk _ = tStk _; rw [hκ k (by omega)]), ← List.append_assoc, List.length_append]
      show _ + (tStk (va_up κ Kc f Kc)).length = _
      rw [hκn]
    have l10 : (sN 10).length = 6 := by decide
    have l11 : (sN 11).length = 1 := by decide
    have l12 : (sN 12).length = 1 := by decide
    have n1' := nd_3 q2
    have n2' : nd (1 + q4) = 1 := nd_1 (by omega)
    obtain ⟨r1, e1, e2⟩ := l_all (τs := τs) (n := n) (pa := pa) (ω := ω) (sid := sid) (w := 10) hF hq2 h3 (by omega)
    have g1 : (s0 ++ catR (tKs κ) 0 Kc ++ sN 10 ++ dn q2).length = (s0 ++ catR (tKs κ) 0 Kc).length + 6 + nd q2 := by rw [List.length_append, List.length_append, dn_len, l10]
    obtain ⟨r2, e3, e4⟩ := l_all (τs := τs) (n := n) (pa := pa) (ω := ω) (sid := sid) (w := 11) (v := 1 + q4) hF (by omega) e2 (by omega)
    have g2 : (s0 ++ catR (tKs κ) 0 Kc ++ sN 10 ++ dn q2 ++ sN 11 ++ dn (1 + q4)).length = (s0 ++ catR (tKs κ) 0 Kc).length + 6 + nd q2 + 1 + nd (1 + q4) := by rw [List.length_append, List.length_append, dn_len, l11, g1]
    obtain ⟨r3, e5, e6⟩ := l_write (τs := τs) (n := n) (pa := pa) (ω := ω) (sid := sid) (w := 12) hF e4 (by omega)
    rw [← htx] at e6
    have hst : mL_randomWorld_L22 F τs n pa ω sid ζ mT ct Ns Φ Ψ φ ψ nS (nI (w + 1)) β υ b sd κ Kc = some (.inr (nI w, r3.1, r3.2.1, r3.2.2, sd4, va_up κ Kc f, Kc + 1)) := by
      unfold mL_randomWorld_L22
      have hK1 : nI (Kc + 1) - 1 = nI Kc := by rw [nI_p (by omega)]; rfl
      have hm1 : nI (w + 1) + (-1 : Int32) = nI w := by rw [← Int32.sub_eq_add_neg, nI_p (by omega)]; rfl
      rw [if_neg (fun z => absurd ((le0 (by omega)).mp z) (by omega)), show (3 : Int32) = nI 3 from rfl, a1, ob2_e, hv1, ob1_e, b1, ob2_e, w0, ob1_e]
      rw [show (2 : Int32) = nI 2 from rfl] at *
      rw [c1, ob2_e, hv2, ob1_e, d1, ob2_e, show (1 : Int32) + nI q4 = nI (1 + q4) from nI_a 1 q4, w1, ob1_e, hf, gLt_t (by omega), ob1_e, ob1_e, ob1_e, hK1, hixn_at (by omega) (by omega), ob1_e, hκn, show rd f 2 (0 : Int32) = some (nI q2) from by rw [← x0]; exact rd_at (k := 0) (by decide) (by decide), ob1_e, e1, ob3_e, ob1_e, hκn, show rd f 2 (1 : Int32) = some (nI (1 + q4)) from by rw [← x1]; exact rd_at (k := 1) (by decide) (by decide), ob1_e, e3, ob3_e, e5, ob3_e, hm1]
    rw [loopM_r hst]
    refine ok_mono (ih G (Kc + 1) r3.1 r3.2.1 r3.2.2 sd4 (va_up κ Kc f) (by omega) (by omega) e6 (fun k hk => ?_) (by omega)) fun x hx => ?_
    · by_cases z : k = Kc
      · subst z; rw [hκn]; exact hS
      · rw [hκ k (by omega)]; exact h4 k (by omega)
    · obtain ⟨p1, p2, p3, p4, p5⟩ := hx
      refine ⟨p1, p2, by omega, ?_, by omega⟩
      rw [p4, hr, itn_a]
      congr 1
      omega
/-- the journeys -/
theorem s_jours (hF : 5000 ≤ F) (hm : mT ≤ 4) (hK1 : 1 ≤ mT → 1 ≤ K) (hK : K ≤ 3) {β : FS} {υ : MS} {b : FS} {sd : MS} (h : WU s0 β υ b υ0) (hl : s0.length + 18 ≤ 700) (hbb : 1 ≤ mT → s0.length + bf 4 (Rs sd) ≤ 700) : ok (loopM (fun st : Int32 × FS × MS × FS × MS × Nat × PA × WS × WS => mL_randomWorld_L169 F τs n pa ω sid ζ κ K mT φ ψ nS st.1 st.2.1 st.2.2.1 st.2.2.2.1 st.2.2.2.2.1 st.2.2.2.2.2.1 st.2.2.2.2.2.2.1 st.2.2.2.2.2.2.2.1 st.2.2.2.2.2.2.2.2) 6 ((0 : Int32), β, υ, b, sd, 0, (fun _ => 0), (fun _ _ _ => 0), (fun _ _ _ => 0))) (fun x => WU (s0 ++ catR (tJs x.2.2.2.2.2.2.1 x.2.2.2.2.2.2.2 x.2.2.2.2.2.1) 0 mT) x.1 x.2.1 x.2.2.1 υ0 ∧ x.2.2.2.2.1 = mT ∧ (∀ j, j < mT → JrOK K (x.2.2.2.2.2.2.2 j) (x.2.2.2.2.2.1 j) ∧ 1 ≤ x.2.2.2.2.2.1 j ∧ x.2.2.2.2.2.1 j ≤ 9 ∧ JfOK (x.2.2.2.2.2.2.1 j) (nv (x.2.2.2.2.2.2.2 j (x.2.2.2.2.2.1 j - 1) 0))) ∧ (s0 ++ catR (tJs x.2.2.2.2.2.2.1 x.2.2.2.2.2.2.2 x.2.2.2.2.2.1) 0 mT).length + 18 ≤ 700) := by
  refine loop_rel (fun j (x : FS × MS × FS × MS × Nat × PA × WS × WS) => WU (s0 ++ catR (tJs x.2.2.2.2.2.2.1 x.2.2.2.2.2.2.2 x.2.2.2.2.2.1) 0 j) x.1 x.2.1 x.2.2.1 υ0 ∧ x.2.2.2.2.1 = j ∧ (∀ i, i < j → JrOK K (x.2.2.2.2.2.2.2 i) (x.2.2.2.2.2.1 i) ∧ 1 ≤ x.2.2.2.2.2.1 i ∧ x.2.2.2.2.2.1 i ≤ 9 ∧ JfOK (x.2.2.2.2.2.2.1 i) (nv (x.2.2.2.2.2.2.2 i (x.2.2.2.2.2.1 i - 1) 0))) ∧ (s0 ++ catR (tJs x.2.2.2.2.2.2.1 x.2.2.2.2.2.2.2 x.2.2.2.2.2.1) 0 j).length + 18 ≤ 700 ∧ (j < mT → (s0 ++ catR (tJs x.2.2.2.2.2.2.1 x.2.2.2.2.2.2.2 x.2.2.2.2.2.1) 0 j).length + bf (4 - j) (Rs x.2.2.2.1) ≤ 700)) mT (fun j x hj hx => ?_) (fun x hx => ?_) mT 0 6 _ (by omega) (by omega) ⟨by show WU (s0 ++ []) β υ b υ0; rw [List.append_nil]; exact h, rfl, fun i hi => absurd hi (Nat.not_lt_zero _), by show (s0 ++ []).length + 18 ≤ 700; rw [List.append_nil]; exact hl, fun z => by show (s0 ++ []).length + bf 4 (Rs sd) ≤ 700; rw [List.append_nil]; exact hbb z⟩
  · obtain ⟨x1, x2, x3, x4, x5⟩ := hx
    have x5 := x5 hj
    obtain ⟨β1, υ1, b1, sd1, ct1, Ns1, Φ1, Ψ1⟩ := x
    dsimp only at x1 x2 x3 x4 x5
    subst x2
    show ok (mL_randomWorld_L169 F τs n pa ω sid ζ κ K mT φ ψ nS (nI ct1) β1 υ1 b1 sd1 ct1 Ns1 Φ1 Ψ1) _
    generalize hT0 : s0 ++ catR (tJs Φ1 Ψ1 Ns1) 0 ct1 = T0 at *
    obtain ⟨q1, sd2, a1, a2, a3, -, a4⟩ := dr F sd1 (b := 4) (by decide) (by decide)
    have a4 := a4 rfl
    obtain ⟨q2, sd3, c1, c2, c3, -, -⟩ := dr F sd2 (b := if q1 = 0 then 30 else 5) (by split <;> decide) (by split <;> decide)
    obtain ⟨q3, sd4, d1, d2, d3, -, -⟩ := dr F sd3 (b := 3) (by decide) (by decide)
    have hr : Rs sd4 = itn 3 (Rs sd1) := by rw [d3, c3, a3]; rfl
    have hq2 : q2 < 30 := by split at c2 <;> omega
    have hv1 : (if nI q1 = (0 : Int32) then some (30 : Int32) else some (5 : Int32)) = some (nI (if q1 = 0 then 30 else 5)) := by
      by_cases z : q1 = 0
      · rw [if_pos z, z]; rfl
      · rw [if_neg z, if_neg (show ¬ nI q1 = (0 : Int32) from fun y => z ((nI_i (b := 0) (by omega) (by decide)).mp y))]; rfl
    have hnd : nd q2 ≤ 1 + z0f (Rs sd1) := by
      have hh := hb_le (Rs sd1)
      have hl := lb_le (Rs sd1)
      by_cases z : q1 = 0
      · have : z0f (Rs sd1) = 1 := by
          unfold z0f
          rw [show hb (Rs sd1) = 0 by omega, show lb (Rs sd1) = 0 by omega]
        have := nd_2 (show q2 < 100 by omega)
        omega
      · rw [if_neg z] at c2
        rw [nd_1 (show q2 < 10 by omega)]
        omega
    obtain ⟨m, hm'⟩ : ∃ m, 4 - ct1 = m + 1 := ⟨3 - ct1, by omega⟩
    rw [hm'] at x5
    have hbf : 9 + z0f (Rs sd1) + gf (fun r => 1 + bf m r) 2 (itn 3 (Rs sd1)) ≤ bf (m + 1) (Rs sd1) := Nat.le_max_right _ _
    generalize hφ : pf (pf φ0 0 (nI q2)) 1 (nI (1 + q3)) = φ1
    have p0 : φ1 0 0 = nI q2 := by rw [← hφ, pf_at, if_neg (by decide), pf_at, if_pos rfl]
    have p1 : φ1 1 0 = nI (1 + q3) := by rw [← hφ, pf_at, if_pos rfl]
    have p2 : φ1 2 0 = 0 := by rw [← hφ, pf_at, if_neg (by decide), pf_at, if_neg (by decide)]; rfl
    have p3 : φ1 3 0 = -1 := by rw [← hφ, pf_at, if_neg (by decide), pf_at, if_neg (by decide)]; rfl
    have p4 : φ1 4 0 = -1 := by rw [← hφ, pf_at, if_neg (by decide), pf_at, if_neg (by decide)]; rfl
    have y0 : nv (φ1 0 0) = q2 := by rw [p0, nv_nI (by omega)]
    have l13 : (sN 13).length = 8 := by decide
    have l12 : (sN 12).length = 1 := by decide
    unfold mL_randomWorld_L169
    rw [if_neg (nle (by omega) (by omega) hj), show (4 : Int32) = nI 4 from rfl, a1, ob2_e, hv1, ob1_e, c1, ob2_e, ob1_e, show (3 : Int32) = nI 3 from rfl, d1, ob2_e, show (1 : Int32) + nI q3 = nI (1 + q3) from nI_a 1 q3, ob1_e, hφ, hixn_at hj (by omega), ob1_e, show gE ct1 ct1 = some () from if_pos rfl, ob1_e, p0]
    refine ok_ob3 (ok_mono (l_all (w := 13) hF (by omega) x1 (by omega)) fun r1 h1 => ?_)
    have g1 : (T0 ++ sN 13 ++ dn q2).length = T0.length + 8 + nd q2 := by rw [List.length_append, List.length_append, dn_len, l13]
    refine ok_ob6 (ok_mono (s_stages (E := fun r => 1 + bf m r) hF (C := 1 + q3) (by omega) (by omega) p1 (hK1 (by omega)) hK h1 (by rw [hr]; omega)) fun r2 h2 => ?_)
    obtain ⟨k1, k2, k3, k4, k5, k6⟩ := h2
    have k6 : (T0 ++ sN 13 ++ dn q2 ++ stR r2.2.2.2.2.1 0 r2.2.2.2.2.2).length + (1 + bf m (Rs r2.2.2.2.1)) ≤ 700 := k6
    refine ok_ob3 (ok_mono (l_write (w := 12) hF k1 (by omega)) fun r3 h3 => ?_)
    rw [ob1_e, ob1_e, ob1_e, ob1_e, nI_s]
    obtain ⟨β2, υ2, b2, sd5, ψ2, nS2⟩ := r2
    dsimp only at k1 k2 k3 k4 k5 k6 h3 ⊢
    have lo1 : ∀ i, i < ct1 → va_up Ns1 ct1 nS2 i = Ns1 i := fun i hi => va_up_ne _ _ (by omega)
    have lo2 : ∀ i, i < ct1 → va_up Φ1 ct1 φ1 i = Φ1 i := fun i hi => va_up_ne _ _ (by omega)
    have lo3 : ∀ i, i < ct1 → va_up Ψ1 ct1 ψ2 i = Ψ1 i := fun i hi => va_up_ne _ _ (by omega)
    have hi1 : va_up Ns1 ct1 nS2 ct1 = nS2 := va_up_self ..
    have hi2 : va_up Φ1 ct1 φ1 ct1 = φ1 := va_up_self ..
    have hi3 : va_up Ψ1 ct1 ψ2 ct1 = ψ2 := va_up_self ..
    have htx : s0 ++ catR (tJs (va_up Φ1 ct1 φ1) (va_up Ψ1 ct1 ψ2) (va_up Ns1 ct1 nS2)) 0 (ct1 + 1) = T0 ++ sN 13 ++ dn q2 ++ stR ψ2 0 nS2 ++ sN 12 := by
      rw [catR_s, Nat.zero_add, catR_congr (g := tJs (va_up Φ1 ct1 φ1) (va_up Ψ1 ct1 ψ2) (va_up Ns1 ct1 nS2)) (g' := tJs Φ1 Ψ1 Ns1) ct1 0 (fun k _ hk => by show tJr _ _ _ = tJr _ _ _; rw [lo1 k (by omega), lo2 k (by omega), lo3 k (by omega)]), ← List.append_assoc, hT0]
      show T0 ++ tJr (nv (va_up Φ1 ct1 φ1 ct1 0 0)) (va_up Ψ1 ct1 ψ2 ct1) (va_up Ns1 ct1 nS2 ct1) = _
      rw [hi1, hi2, hi3, y0]
      unfold tJr
      simp only [List.append_assoc]
    have hle : (T0 ++ sN 13 ++ dn q2 ++ stR ψ2 0 nS2 ++ sN 12).length = (T0 ++ sN 13 ++ dn q2 ++ stR ψ2 0 nS2).length + 1 := by rw [List.length_append, l12]
    have h18 := bf_18 m (Rs sd5)
    refine ok_some ⟨_, rfl, ?_, rfl, fun i hi => ?_, ?_, fun z => ?_⟩
    · show WU (s0 ++ catR (tJs (va_up Φ1 ct1 φ1) (va_up Ψ1 ct1 ψ2) (va_up Ns1 ct1 nS2)) 0 (ct1 + 1)) r3.1 r3.2.1 r3.2.2 υ0
      rw [htx]; exact h3
    · show JrOK K (va_up Ψ1 ct1 ψ2 i) (va_up Ns1 ct1 nS2 i) ∧ 1 ≤ va_up Ns1 ct1 nS2 i ∧ va_up Ns1 ct1 nS2 i ≤ 9 ∧ JfOK (va_up Φ1 ct1 φ1 i) (nv (va_up Ψ1 ct1 ψ2 i (va_up Ns1 ct1 nS2 i - 1) 0))
      by_cases z : i = ct1
      · subst z
        rw [hi1, hi2, hi3]
        exact ⟨k2, k3, k4, by rw [y0]; exact p0, by omega, by rw [p1, ← k5], p2, p3, p4⟩
      · rw [lo1 i (by omega), lo2 i (by omega), lo3 i (by omega)]
        exact x3 i (by omega)
    · show (s0 ++ catR (tJs (va_up Φ1 ct1 φ1) (va_up Ψ1 ct1 ψ2) (va_up Ns1 ct1 nS2)) 0 (ct1 + 1)).length + 18 ≤ 700
      rw [htx, hle]; omega
    · show (s0 ++ catR (tJs (va_up Φ1 ct1 φ1) (va_up Ψ1 ct1 ψ2) (va_up Ns1 ct1 nS2)) 0 (ct1 + 1)).length + bf (4 - (ct1 + 1)) (Rs sd5) ≤ 700
      rw [htx, hle, show 4 - (ct1 + 1) = m by omega]; omega
  · obtain ⟨x1, x2, x3, x4, x5⟩ := hx
    show ok (mL_randomWorld_L169 F τs n pa ω sid ζ κ K mT φ ψ nS (nI mT) x.1 x.2.1 x.2.2.1 x.2.2.2.1 x.2.2.2.2.1 x.2.2.2.2.2.1 x.2.2.2.2.2.2.1 x.2.2.2.2.2.2.2) _
    unfold mL_randomWorld_L169
    rw [if_pos ((nI_leI (by omega) (by omega)).mpr (Nat.le_refl _))]
    exact ok_some ⟨_, rfl, x1, x2, x3, x4⟩
end WO
