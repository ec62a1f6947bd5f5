/-! pure: a random world is drawn, written and loaded; the law -/
theorem ok_ob9b {α1 α2 α3 α4 α5 α6 α7 α8 α9 γ : Type} {m : Option (α1 × α2 × α3 × α4 × α5 × α6 × α7 × α8 × α9)} {f : α1 → α2 → α3 → α4 → α5 → α6 → α7 → α8 → α9 → Option γ} {Q : γ → Prop} (h : ok m (fun x => ok (f x.1 x.2.1 x.2.2.1 x.2.2.2.1 x.2.2.2.2.1 x.2.2.2.2.2.1 x.2.2.2.2.2.2.1 x.2.2.2.2.2.2.2.1 x.2.2.2.2.2.2.2.2) Q)) : ok (ob9 m f) Q := ok_ob1 h
theorem ok_ob8b {α1 α2 α3 α4 α5 α6 α7 α8 γ : Type} {m : Option (α1 × α2 × α3 × α4 × α5 × α6 × α7 × α8)} {f : α1 → α2 → α3 → α4 → α5 → α6 → α7 → α8 → Option γ} {Q : γ → Prop} (h : ok m (fun x => ok (f x.1 x.2.1 x.2.2.1 x.2.2.2.1 x.2.2.2.2.1 x.2.2.2.2.2.1 x.2.2.2.2.2.2.1 x.2.2.2.2.2.2.2) Q)) : ok (ob8 m f) Q := ok_ob1 h
theorem rw_ok {F : Nat} (hF : 5000 ≤ F) : RWok F := by
  intro pa υ ω sid u x hp hs hu h6 h1
  have h0 := WT_0 h1
  generalize hsd : (fun _ _ => x : MS) = sd
  generalize hr0 : Rs sd = r0
  have hr0l : r0 < 262144 := by rw [← hr0]; exact Rs_lt sd
  have hff := ff_all hr0l
  have l9 : (sN 9).length = 6 := by decide
  have l12 : (sN 12).length = 1 := by decide
  have l20 : (sN 20).length = 5 := by decide
  have l21 : (sN 21).length = 8 := by decide
  have l22 : (sN 22).length = 2 := by decide
  unfold mL_randomWorld
  refine ok_ob3 (ok_mono (l_write (w := 9) hF h0 (by rw [l9]; decide)) fun r1 hr1 => ?_)
  rw [List.nil_append] at hr1
  obtain ⟨n0, sd1, a1, a2, a3, -, a4⟩ := dr F sd (b := 4) (by decide) (by decide)
  have a4 := a4 rfl
  rw [hr0] at a3 a4
  rw [show (4 : Int32) = nI 4 from rfl, a1, ob2_e]
  have hs0 : (sN 9 ++ catR (tKs (fun _ _ => 0)) 0 0).length = 6 := by
    show (sN 9 ++ []).length = 6
    rw [List.append_nil, l9]
  refine ok_ob6 (ok_mono (s_stocks (s0 := sN 9) hF n0 5 0 r1.1 r1.2.1 r1.2.2 sd1 (fun _ _ => 0) (by omega) (by omega) (by show WU (sN 9 ++ []) r1.1 r1.2.1 r1.2.2 υ; rw [List.append_nil]; exact hr1) (fun k hk => absurd hk (Nat.not_lt_zero _)) (by omega)) fun r2 h2 => ?_)
  obtain ⟨b1, b2, b3, b4, b5⟩ := h2
  rw [hs0] at b5
  rw [Nat.zero_add] at b3
  obtain ⟨β2, υ2, bb2, sd2, κ2, K2⟩ := r2
  dsimp only at b1 b2 b3 b4 b5 ⊢
  subst b3
  rw [a3] at b4
  have b4 : Rs sd2 = itn (1 + 4 * K2) r0 := by rw [b4]; exact itn_a 1 (4 * K2) r0
  have hK3 : K2 ≤ 3 := by omega
  generalize hT2 : sN 9 ++ catR (tKs κ2) 0 K2 = T2 at *
  have hm : ∃ mT sd3, (if (nI K2) = 0 then some ((0 : Int32), sd2) else ob2 (mX4_below F sd2 (5 : Int32)) fun r80 sd81 => some (r80, sd81)) = some (nI mT, sd3) ∧ mT ≤ 4 ∧ (1 ≤ mT → 1 ≤ K2) ∧ (1 ≤ mT → T2.length + bf 4 (Rs sd3) ≤ 700) := by
    by_cases z : K2 = 0
    · rw [if_pos (by rw [z]; rfl)]
      exact ⟨0, sd2, rfl, by omega, fun q => absurd q (by decide), fun q => absurd q (by decide)⟩
    · rw [if_neg (show ¬ nI K2 = (0 : Int32) from fun y => z ((nI_i (b := 0) (by omega) (by decide)).mp y))]
      obtain ⟨q, sd3, c1, c2, c3, -, -⟩ := dr F sd2 (b := 5) (by decide) (by decide)
      refine ⟨q, sd3, by rw [show (5 : Int32) = nI 5 from rfl, c1, ob2_e], by omega, fun _ => by omega, fun _ => ?_⟩
      rw [b4, nx_it] at c3
      rw [c3]
      have hh := hb_le r0
      have hl := lb_le r0
      have i1 : ∀ (c : Prop) [Decidable c] (v : Nat), c → v ≤ (if c then v else 0) := fun c _ v hc => by rw [if_pos hc]; exact Nat.le_refl _
      unfold ff at hff
      rcases (show K2 = 1 ∨ K2 = 2 ∨ K2 = 3 by omega) with e | e | e
      · have := i1 ((1 - hb r0) * lb r0 = 1) (18 + bf 4 (itn 6 r0)) (by rw [show hb r0 = 0 by omega, show lb r0 = 1 by omega])
        rw [e]
        show T2.length + bf 4 (itn 6 r0) ≤ 700
        omega
      · have := i1 (hb r0 * (1 - lb r0) = 1) (30 + bf 4 (itn 10 r0)) (by rw [show hb r0 = 1 by omega, show lb r0 = 0 by omega])
        rw [e]
        show T2.length + bf 4 (itn 10 r0) ≤ 700
        omega
      · have := i1 (hb r0 * lb r0 = 1) (42 + bf 4 (itn 14 r0)) (by rw [show hb r0 = 1 by omega, show lb r0 = 1 by omega])
        rw [e]
        show T2.length + bf 4 (itn 14 r0) ≤ 700
        omega
  obtain ⟨mT, sd3, m1, m2, m3, m4⟩ := hm
  rw [m1, ob2_e, hixn_at (show mT < 9 by omega) (by decide), ob1_e]
  refine ok_ob8b (ok_mono (s_jours (s0 := T2) hF m2 m3 hK3 b1 (by omega) m4) fun r3 h3 => ?_)
  obtain ⟨β3, υ3, bb3, sd4, ct3, Ns3, Φ3, Ψ3⟩ := r3
  obtain ⟨c1, c2, c3, c4⟩ := h3
  dsimp only at c1 c2 c3 c4 ⊢
  subst c2
  generalize hT3 : T2 ++ catR (tJs Φ3 Ψ3 Ns3) 0 ct3 = T3 at *
  obtain ⟨q1, sd5, d1, d2, d3, -, -⟩ := dr F sd4 (b := 2) (by decide) (by decide)
  rw [show (2 : Int32) = nI 2 from rfl, d1, ob2_e]
  refine ok_ob5 (ok_mono (P := fun y : FS × MS × FS × MS × MS => ∃ W, W ≤ 9 ∧ WU (T3 ++ tWa W) y.1 y.2.1 y.2.2.1 υ ∧ (tWa W).length ≤ 7 ∧ y.2.2.2.2 0 0 = 0 ∧ y.2.2.2.2 1 0 = (if W = 0 then 5 else nI W) ∧ y.2.2.2.2 2 0 = 3 ∧ y.2.2.2.2 3 0 = 0) ?_ fun y hy => ?_)
  · by_cases z : q1 = 0
    · rw [if_pos (by rw [z]; rfl)]
      obtain ⟨q2, sd6, e1, e2, e3, -, -⟩ := dr F sd5 (b := 6) (by decide) (by decide)
      have hW : (pf ζ0 1 (nI (1 + q2))) 1 0 = nI (1 + q2) := by rw [pf_at, if_pos rfl]
      have n1' := nd_1 (show 1 + q2 < 10 by omega)
      rw [show (6 : Int32) = nI 6 from rfl, e1, ob2_e, show (1 : Int32) + nI q2 = nI (1 + q2) from nI_a 1 q2, ob1_e, hW]
      refine ok_ob3 (ok_mono (l_all (w := 20) hF (by omega) c1 (by omega)) fun r4 h4 => ?_)
      have g1 : (T3 ++ sN 20 ++ dn (1 + q2)).length = T3.length + 5 + nd (1 + q2) := by rw [List.length_append, List.length_append, dn_len, l20]
      refine ok_ob3 (ok_mono (l_write (w := 12) hF h4 (by omega)) fun r5 h5 => ?_)
      have ew : tWa (1 + q2) = sN 20 ++ (dn (1 + q2) ++ sN 12) := if_neg (by omega)
      refine ok_some ⟨1 + q2, by omega, ?_, ?_, rfl, ?_, rfl, rfl⟩
      · rw [ew]
        simp only [List.append_assoc] at h5 ⊢
        exact h5
      · rw [ew, List.length_append, List.length_append, dn_len, l20, l12]
        omega
      · show (pf ζ0 1 (nI (1 + q2))) 1 0 = _
        rw [hW, if_neg (by omega)]
    · rw [if_neg (show ¬ nI q1 = (0 : Int32) from fun y => z ((nI_i (b := 0) (by omega) (by decide)).mp y))]
      refine ok_some ⟨0, by decide, ?_, by decide, rfl, rfl, rfl, rfl⟩
      show WU (T3 ++ []) β3 υ3 bb3 υ
      rw [List.append_nil]
      exact c1
  · obtain ⟨W, w1, w2, w3, w4, w5, w6, w7⟩ := hy
    obtain ⟨β4, υ4, bb4, sd6, ζ4⟩ := y
    dsimp only at w2 w4 w5 w6 w7 ⊢
    have hlW : (T3 ++ tWa W).length = T3.length + (tWa W).length := List.length_append ..
    generalize hT4 : T3 ++ tWa W = T4 at *
    obtain ⟨q3, sd7, e1, e2, e3, -, -⟩ := dr F sd6 (b := 2) (by decide) (by decide)
    rw [e1, ob2_e]
    refine ok_ob5 (ok_mono (P := fun y : FS × MS × FS × MS × MS => ∃ P, P ≤ 9 ∧ WU (T4 ++ tPa P) y.1 y.2.1 y.2.2.1 υ ∧ y.2.2.2.2 0 0 = 0 ∧ y.2.2.2.2 1 0 = (if W = 0 then 5 else nI W) ∧ y.2.2.2.2 2 0 = (if P = 0 then 3 else nI P) ∧ y.2.2.2.2 3 0 = 0) ?_ fun y hy => ?_)
    · by_cases z : q3 = 0
      · rw [if_pos (by rw [z]; rfl)]
        obtain ⟨q4, sd8, f1, f2, f3, -, -⟩ := dr F sd7 (b := 4) (by decide) (by decide)
        have hP : (pf ζ4 2 (nI (1 + q4))) 2 0 = nI (1 + q4) := by rw [pf_at, if_pos rfl]
        have n1' := nd_1 (show 1 + q4 < 10 by omega)
        rw [f1, ob2_e, show (1 : Int32) + nI q4 = nI (1 + q4) from nI_a 1 q4, ob1_e, hP]
        refine ok_ob3 (ok_mono (l_all (w := 21) hF (by omega) w2 (by omega)) fun r4 h4 => ?_)
        have g1 : (T4 ++ sN 21 ++ dn (1 + q4)).length = T4.length + 8 + nd (1 + q4) := by rw [List.length_append, List.length_append, dn_len, l21]
        refine ok_ob3 (ok_mono (l_write (w := 22) hF h4 (by omega)) fun r5 h5 => ?_)
        have ew : tPa (1 + q4) = sN 21 ++ (dn (1 + q4) ++ sN 22) := if_neg (by omega)
        refine ok_some ⟨1 + q4, by omega, ?_, ?_, ?_, ?_, ?_⟩
        · rw [ew]
          simp only [List.append_assoc] at h5 ⊢
          exact h5
        · show (pf ζ4 2 (nI (1 + q4))) 0 0 = 0
          rw [pf_at, if_neg (by decide)]; exact w4
        · show (pf ζ4 2 (nI (1 + q4))) 1 0 = _
          rw [pf_at, if_neg (by decide)]; exact w5
        · show (pf ζ4 2 (nI (1 + q4))) 2 0 = _
          rw [hP, if_neg (by omega)]
        · show (pf ζ4 2 (nI (1 + q4))) 3 0 = 0
          rw [pf_at, if_neg (by decide)]; exact w7
      · rw [if_neg (show ¬ nI q3 = (0 : Int32) from fun y => z ((nI_i (b := 0) (by omega) (by decide)).mp y))]
        refine ok_some ⟨0, by decide, ?_, w4, w5, w6, w7⟩
        show WU (T4 ++ []) β4 υ4 bb4 υ
        rw [List.append_nil]
        exact w2
    · obtain ⟨P, p1, p2, p3, p4, p5, p6⟩ := hy
      obtain ⟨β5, υ5, bb5, sd8, ζ5⟩ := y
      dsimp only at p2 p3 p4 p5 p6 ⊢
      have hWD : WD ζ5 κ2 K2 Φ3 Ψ3 Ns3 ct3 W P := ⟨hK3, m2, w1, p1, b2, c3, p3, p4, p5, p6⟩
      have hT : T4 ++ tPa P = tAll κ2 K2 Φ3 Ψ3 Ns3 ct3 W P := by
        rw [← hT4, ← hT3, ← hT2]
        unfold tAll
        simp only [List.append_assoc]
      refine ok_ob9b (ok_mono (l_load hF hWD hT p2 hs hp hu h6) fun r6 h7 => ?_)
      obtain ⟨g1, g2⟩ := h7
      rw [g1, if_pos rfl, show gE ct3 ct3 = some () from if_pos rfl, ob1_e]
      exact ok_some g2
/-- the law, in the mirror -/
theorem p_law (xs : Nat → Int32) (L : Nat) (hL : L ≤ 260) : ∃ fu, mL_law fu xs L = some 1 := p_of (rw_ok (Nat.le_refl _)) xs L hL
