/-! pure: a step is drawn and written -/
def Rs (sd : MS) : Nat := stt sd % 262144
theorem Rs_lt (sd : MS) : Rs sd < 262144 := Nat.mod_lt _ (by decide)
theorem nxt_nx (s : Nat) : nxt s % 262144 = nx (s % 262144) := by
  unfold nxt nx
  omega
theorem nx_it : ∀ k r, nx (itn k r) = itn (k + 1) r := fun k r => itn_a k 1 r
theorem dr (F : Nat) (sd : MS) {b : Nat} (h1 : 1 ≤ b) (h2 : b < 2 ^ 31) : ∃ q sd', mX4_below F sd (nI b) = some (nI q, sd') ∧ q < b ∧ Rs sd' = nx (Rs sd) ∧ (b = 2 → q = lb (Rs sd)) ∧ (b = 4 → q = 2 * hb (Rs sd) + lb (Rs sd)) := by
  obtain ⟨sd', e1, e2⟩ := below_eq F sd h1 h2
  have e3 : Rs sd' = nx (Rs sd) := by
    unfold Rs
    rw [e2]
    exact nxt_nx _
  refine ⟨_, sd', e1, Nat.mod_lt _ (by omega), e3, fun z => ?_, fun z => ?_⟩
  · subst z
    unfold lb
    rw [← e3]
    unfold Rs
    rw [e2]
    omega
  · subst z
    unfold lb hb
    rw [← e3]
    unfold Rs
    rw [e2]
    omega
theorem le0 {x : Nat} (hx : x < 2 ^ 31) : (nI x ≤ (0 : Int32)) ↔ x = 0 := by
  rw [show (0 : Int32) = nI 0 from rfl, nI_leI hx (by decide)]
  omega
def sepK (k : Nat) : List Nat := if k = 0 then sN 11 else sN 15
theorem sepK_len (k : Nat) : (sepK k).length = if k = 0 then 1 else 5 := by
  unfold sepK
  split <;> decide
theorem tBod_len (f : FS) : (tBod f).length = nd (nv (f 1)) + (1 + (nd (nv (f 2)) + (1 + (nd (nv (f 3)) + ((if nv (f 5) = 0 then 0 else 4 + nd (nv (f 5))) + (if nv (f 6) = 0 then 0 else 7 + nd (nv (f 6)))))))) := by
  unfold tBod
  rw [List.length_append, List.length_append, List.length_append, List.length_append, List.length_append, List.length_append, dn_len, dn_len, dn_len, show (sN 16).length = 1 from by decide, show (sN 17).length = 1 from by decide]
  have e5 : (if nv (f 5) = 0 then [] else sN 18 ++ dn (nv (f 5))).length = if nv (f 5) = 0 then 0 else 4 + nd (nv (f 5)) := by
    split
    · rfl
    · rw [List.length_append, dn_len, show (sN 18).length = 4 from by decide]
  have e6 : (if nv (f 6) = 0 then [] else sN 19 ++ dn (nv (f 6))).length = if nv (f 6) = 0 then 0 else 7 + nd (nv (f 6)) := by
    split
    · rfl
    · rw [List.length_append, dn_len, show (sN 19).length = 7 from by decide]
  rw [e5, e6]
theorem nd_1 {v : Nat} (h : v < 10) : nd v = 1 := by unfold nd; rw [if_pos h]
theorem nd_2 {v : Nat} (h : v < 100) : nd v ≤ 2 := by
  unfold nd
  split
  · omega
  · omega
theorem nd_3 (v : Nat) : nd v ≤ 3 := by
  unfold nd
  split
  · decide
  · split <;> decide
section ST
variable {F n K mT ct nS : Nat} {τs : WS} {pa : PA} {β : FS} {υ υ0 : MS} {ω : WS} {sid : PA} {b : FS} {s : List Nat} {sd ζ κ φ ψ : MS} {Ns : PA} {Φ Ψ : WS} {l7 l6 l4 : Int32}
theorem s_row (hF : 5000 ≤ F) {f rF : FS} (hf : UniOK K f) {k : Nat} (hk : k ≤ 2) (h : WU s β υ b υ0) (hl : s.length + (sepK k).length + (tBod f).length ≤ 700) : ok (mL_rw_R421 F (nI k) l7 l6 l4 τs n pa β υ ω sid b sd ζ κ K mT ct Ns Φ Ψ φ ψ nS f) (fun r => WU (s ++ (sepK k ++ tBod f)) r.1 r.2.1 r.2.2 υ0) := by
  obtain ⟨hn, u0, u1, uK, u2a, u2b, u3a, u3b, u4, u5, u6, u7, u8⟩ := hf
  have hlen := tBod_len f
  have rd9 : ∀ i, i < 9 → rd f 9 (nI i) = some (nI (nv (f i))) := fun i hi => by rw [rd_at hi (by decide), ← hn i hi]
  have l16 : (sN 16).length = 1 := by decide
  have l17 : (sN 17).length = 1 := by decide
  have l18 : (sN 18).length = 4 := by decide
  have l19 : (sN 19).length = 7 := by decide
  have hv : (if nI k ≤ (0 : Int32) then some 11 else some 15) = some (if k = 0 then 11 else 15) := by
    by_cases z : k = 0
    · rw [if_pos ((le0 (by omega)).mpr z), if_pos z]
    · rw [if_neg (fun y => z ((le0 (by omega)).mp y)), if_neg z]
  have hsep : sepK k = sN (if k = 0 then 11 else 15) := by
    unfold sepK
    split <;> rfl
  rw [hsep] at hl ⊢
  unfold mL_rw_R421
  rw [hv, ob1_e]
  generalize (if k = 0 then 11 else 15) = w at *
  rw [show rd f 9 (1 : Int32) = _ from rd9 1 (by decide), ob1_e]
  refine ok_ob3 (ok_mono (l_all hF (by omega) h (by omega)) fun r1 h1 => ?_)
  rw [show rd f 9 (2 : Int32) = _ from rd9 2 (by decide), ob1_e]
  have e1 : (s ++ sN w ++ dn (nv (f 1))).length = s.length + (sN w).length + nd (nv (f 1)) := by rw [List.length_append, List.length_append, dn_len]
  refine ok_ob3 (ok_mono (l_all hF (by omega) h1 (by omega)) fun r2 h2 => ?_)
  rw [show rd f 9 (3 : Int32) = _ from rd9 3 (by decide), ob1_e]
  have e2 : (s ++ sN w ++ dn (nv (f 1)) ++ sN 16 ++ dn (nv (f 2))).length = s.length + (sN w).length + nd (nv (f 1)) + 1 + nd (nv (f 2)) := by rw [List.length_append, List.length_append, dn_len, e1, l16]
  refine ok_ob3 (ok_mono (l_all hF (by omega) h2 (by omega)) fun r3 h3 => ?_)
  rw [show rd f 9 (5 : Int32) = _ from rd9 5 (by decide), ob1_e]
  have e3 : (s ++ sN w ++ dn (nv (f 1)) ++ sN 16 ++ dn (nv (f 2)) ++ sN 17 ++ dn (nv (f 3))).length = s.length + (sN w).length + nd (nv (f 1)) + 1 + nd (nv (f 2)) + 1 + nd (nv (f 3)) := by rw [List.length_append, List.length_append, dn_len, e2, l17]
  generalize hS : s ++ sN w ++ dn (nv (f 1)) ++ sN 16 ++ dn (nv (f 2)) ++ sN 17 ++ dn (nv (f 3)) = S at *
  refine ok_ob3 (ok_mono (P := fun r => WU (S ++ (if nv (f 5) = 0 then [] else sN 18 ++ dn (nv (f 5)))) r.1 r.2.1 r.2.2 υ0) ?_ fun r5 h5 => ?_)
  · by_cases z : nv (f 5) = 0
    · rw [if_pos ((le0 (by omega)).mpr z), if_pos z, List.append_nil]
      exact ok_some h3
    · rw [if_neg (fun y => z ((le0 (by omega)).mp y)), if_neg z, ob1_e]
      rw [if_neg z] at hlen
      refine ok_ob3 (ok_mono (l_all hF (by omega) h3 (by omega)) fun r4 h4 => ?_)
      rw [List.append_assoc] at h4
      exact ok_some h4
  · rw [show rd f 9 (6 : Int32) = _ from rd9 6 (by decide), ob1_e]
    have e5 : (S ++ (if nv (f 5) = 0 then [] else sN 18 ++ dn (nv (f 5)))).length = S.length + (if nv (f 5) = 0 then 0 else 4 + nd (nv (f 5))) := by
      rw [List.length_append]
      split
      · rfl
      · rw [List.length_append, dn_len, l18]
    have hT : s ++ (sN w ++ tBod f) = S ++ (if nv (f 5) = 0 then [] else sN 18 ++ dn (nv (f 5))) ++ (if nv (f 6) = 0 then [] else sN 19 ++ dn (nv (f 6))) := by
      rw [← hS]
      unfold tBod
      simp only [List.append_assoc]
    rw [hT]
    by_cases z : nv (f 6) = 0
    · rw [if_pos ((le0 (by omega)).mpr z), if_pos z, List.append_nil]
      exact ok_some h5
    · rw [if_neg (fun y => z ((le0 (by omega)).mp y)), if_neg z, ob1_e]
      rw [if_neg z] at hlen
      refine ok_ob3 (ok_mono (l_all hF (by omega) h5 (by omega)) fun r6 h6 => ?_)
      rw [List.append_assoc _ (sN 19)] at h6
      exact ok_some h6
/-- eight draws, one row -/
theorem s_step (hF : 5000 ≤ F) {rF : FS} {k g r : Nat} (hk : k ≤ 2) (hg : g ≤ 2) (hK1 : 1 ≤ K) (hK : K ≤ 3) (hnS : nS < 9) (hr : Rs sd = r) (h : WU s β υ b υ0) (hl : s.length + (sepK k).length + lsf r ≤ 700) : ok (mL_rw_R300 F (nI k) l7 (nI g) l4 τs n pa β υ ω sid b sd ζ κ K mT ct Ns Φ Ψ φ ψ nS rF) (fun x => x.1 = nI (k + 1) ∧ Rs x.2.2.2.2.1 = itn 8 r ∧ x.2.2.2.2.2.2 = nS + 1 ∧ ∃ f, x.2.2.2.2.2.1 = va_up ψ nS f ∧ UniOK K f ∧ nv (f 0) = g ∧ (tBod f).length ≤ lsf r ∧ WU (s ++ (sepK k ++ tBod f)) x.2.1 x.2.2.1 x.2.2.2.1 υ0) := by
  obtain ⟨q1, sd1, a1, a2, a3, a4, -⟩ := dr F sd (b := 2) (by decide) (by decide)
  obtain ⟨q2, sd2, b1, b2, b3, -, b4⟩ := dr F sd1 (b := 4) (by decide) (by decide)
  obtain ⟨q3, sd3, c1, c2, c3, -, -⟩ := dr F sd2 (b := K) hK1 (by omega)
  obtain ⟨q4, sd4, d1, d2, d3, -, d4⟩ := dr F sd3 (b := 4) (by decide) (by decide)
  obtain ⟨q5, sd5, e1, e2, e3, -, -⟩ := dr F sd4 (b := if q4 = 0 then 30 else 8) (by split <;> decide) (by split <;> decide)
  obtain ⟨q6, sd6, f1, f2, f3, -, -⟩ := dr F sd5 (b := 4) (by decide) (by decide)
  obtain ⟨q7, sd7, g1, g2, g3, g4, -⟩ := dr F sd6 (b := 2) (by decide) (by decide)
  obtain ⟨q8, sd8, i1, i2, i3, -, -⟩ := dr F sd7 (b := 7) (by decide) (by decide)
  have r1 : Rs sd1 = itn 1 r := by rw [a3, hr]; rfl
  have r2 : Rs sd2 = itn 2 r := by rw [b3, r1, nx_it]
  have r3 : Rs sd3 = itn 3 r := by rw [c3, r2, nx_it]
  have r4 : Rs sd4 = itn 4 r := by rw [d3, r3, nx_it]
  have r5 : Rs sd5 = itn 5 r := by rw [e3, r4, nx_it]
  have r6 : Rs sd6 = itn 6 r := by rw [f3, r5, nx_it]
  have r7 : Rs sd7 = itn 7 r := by rw [g3, r6, nx_it]
  have r8 : Rs sd8 = itn 8 r := by rw [i3, r7, nx_it]
  have a4 := a4 rfl
  have b4 := b4 rfl
  have d4 := d4 rfl
  have g4 := g4 rfl
  rw [hr] at a4
  rw [r1] at b4
  rw [r3] at d4
  rw [r6] at g4
  have w9 : ∀ (f : FS) (i : Nat) (v : Int32), i < 9 → wr f 9 (nI i) v = some (upd f i v) := fun f i v hi => wr_at hi (by decide)
  have w0 : ∀ (f : FS) (v : Int32), wr f 9 (0 : Int32) v = some (upd f 0 v) := fun f v => w9 f 0 v (by decide)
  have w1 : ∀ (f : FS) (v : Int32), wr f 9 (1 : Int32) v = some (upd f 1 v) := fun f v => w9 f 1 v (by decide)
  have w2 : ∀ (f : FS) (v : Int32), wr f 9 (2 : Int32) v = some (upd f 2 v) := fun f v => w9 f 2 v (by decide)
  have w3 : ∀ (f : FS) (v : Int32), wr f 9 (3 : Int32) v = some (upd f 3 v) := fun f v => w9 f 3 v (by decide)
  have w4 : ∀ (f : FS) (v : Int32), wr f 9 (4 : Int32) v = some (upd f 4 v) := fun f v => w9 f 4 v (by decide)
  have w5 : ∀ (f : FS) (v : Int32), wr f 9 (5 : Int32) v = some (upd f 5 v) := fun f v => w9 f 5 v (by decide)
  have w6 : ∀ (f : FS) (v : Int32), wr f 9 (6 : Int32) v = some (upd f 6 v) := fun f v => w9 f 6 v (by decide)
  have w7 : ∀ (f : FS) (v : Int32), wr f 9 (7 : Int32) v = some (upd f 7 v) := fun f v => w9 f 7 v (by decide)
  have w8 : ∀ (f : FS) (v : Int32), wr f 9 (8 : Int32) v = some (upd f 8 v) := fun f v => w9 f 8 v (by decide)
  generalize hf : upd (upd (upd (upd (upd (upd (upd (upd (upd (fun _ => 0) 0 (nI g)) 1 (nI q3)) 2 (nI (1 + q5))) 3 (nI (1 + q6))) 4 0) 5 (nI (q7 * q8))) 6 (nI (q1 * q2))) 7 (nI (q1 * q2))) 8 0 = f
  have x0 : f 0 = nI g := by rw [← hf]; rfl
  have x1 : f 1 = nI q3 := by rw [← hf]; rfl
  have x2 : f 2 = nI (1 + q5) := by rw [← hf]; rfl
  have x3 : f 3 = nI (1 + q6) := by rw [← hf]; rfl
  have x4 : f 4 = nI 0 := by rw [← hf]; rfl
  have x5 : f 5 = nI (q7 * q8) := by rw [← hf]; rfl
  have x6 : f 6 = nI (q1 * q2) := by rw [← hf]; rfl
  have x7 : f 7 = nI (q1 * q2) := by rw [← hf]; rfl
  have x8 : f 8 = nI 0 := by rw [← hf]; rfl
  have m1 : q7 * q8 ≤ 1 * 6 := Nat.mul_le_mul (by omega) (by omega)
  have m2 : q1 * q2 ≤ 1 * 3 := Nat.mul_le_mul (by omega) (by omega)
  have h5b : q5 < 30 := by split at e2 <;> omega
  have y0 : nv (f 0) = g := by rw [x0, nv_nI (by omega)]
  have y1 : nv (f 1) = q3 := by rw [x1, nv_nI (by omega)]
  have y2 : nv (f 2) = 1 + q5 := by rw [x2, nv_nI (by omega)]
  have y3 : nv (f 3) = 1 + q6 := by rw [x3, nv_nI (by omega)]
  have y4 : nv (f 4) = 0 := by rw [x4]; rfl
  have y5 : nv (f 5) = q7 * q8 := by rw [x5, nv_nI (by omega)]
  have y6 : nv (f 6) = q1 * q2 := by rw [x6, nv_nI (by omega)]
  have y7 : nv (f 7) = q1 * q2 := by rw [x7, nv_nI (by omega)]
  have y8 : nv (f 8) = 0 := by rw [x8]; rfl
  have hU : UniOK K f := by
    refine ⟨fun c hc => ?_, by omega, by omega, hK, by omega, by omega, by omega, by omega, x4, by omega, by omega, by rw [x6, x7], x8⟩
    match c, hc with
    | 0, _ => rw [y0]; exact x0
    | 1, _ => rw [y1]; exact x1
    | 2, _ => rw [y2]; exact x2
    | 3, _ => rw [y3]; exact x3
    | 4, _ => rw [y4]; exact x4
    | 5, _ => rw [y5]; exact x5
    | 6, _ => rw [y6]; exact x6
    | 7, _ => rw [y7]; exact x7
    | 8, _ => rw [y8]; exact x8
    | n + 9, hc => exact absurd hc (by omega)
  have hlen : (tBod f).length ≤ lsf r := by
    rw [tBod_len, y1, y2, y3, y5, y6, nd_1 (show q3 < 10 by omega), nd_1 (show 1 + q6 < 10 by omega), nd_1 (show q7 * q8 < 10 by omega), nd_1 (show q1 * q2 < 10 by omega)]
    have t2 : nd (1 + q5) ≤ 1 + z0f (itn 3 r) := by
      have hh := hb_le (itn 3 r)
      have hl := lb_le (itn 3 r)
      by_cases z : q4 = 0
      · have : z0f (itn 3 r) = 1 := by
          unfold z0f
          rw [show hb (itn 3 r) = 0 by omega, show lb (itn 3 r) = 0 by omega]
        have := nd_2 (show 1 + q5 < 100 by omega)
        omega
      · rw [if_neg z] at e2
        rw [nd_1 (show 1 + q5 < 10 by omega)]
        omega
    have t5 : (if q7 * q8 = 0 then 0 else 4 + 1) ≤ 5 * lb (itn 6 r) := by
      rw [← g4]
      rcases (show q7 = 0 ∨ q7 = 1 by omega) with z | z
      · rw [z, Nat.zero_mul, if_pos rfl]; exact Nat.zero_le _
      · rw [z]; split <;> omega
    have t6 : (if q1 * q2 = 0 then 0 else 7 + 1) ≤ 8 * (lb r * (1 - z0f (itn 1 r))) := by
      rw [← a4]
      rcases (show q1 = 0 ∨ q1 = 1 by omega) with z | z
      · rw [z, Nat.zero_mul, if_pos rfl]; exact Nat.zero_le _
      · rw [z, Nat.one_mul, Nat.one_mul]
        by_cases z2 : q2 = 0
        · rw [if_pos z2]; exact Nat.zero_le _
        · have hh := hb_le (itn 1 r)
          have hl := lb_le (itn 1 r)
          have : z0f (itn 1 r) = 0 := by
            unfold z0f
            rcases (show hb (itn 1 r) = 1 ∨ lb (itn 1 r) = 1 by omega) with w | w
            · rw [w]; exact Nat.zero_mul _
            · rw [w]; exact Nat.mul_zero _
          rw [this, if_neg z2]
          decide
    unfold lsf
    omega
  unfold mL_rw_R300
  rw [show (2 : Int32) = nI 2 from rfl] at *
  rw [show (4 : Int32) = nI 4 from rfl] at *
  rw [a1, ob2_e, b1, ob2_e, w0, ob1_e, c1, ob2_e, w1, ob1_e, d1, ob2_e]
  have hv11 : (if nI q4 = (0 : Int32) then some (30 : Int32) else some (8 : Int32)) = some (nI (if q4 = 0 then 30 else 8)) := by
    by_cases z : q4 = 0
    · rw [if_pos z, z]; rfl
    · rw [if_neg z, if_neg (show ¬ nI q4 = (0 : Int32) from fun y => z ((nI_i (b := 0) (by omega) (by decide)).mp y))]; rfl
  rw [hv11, ob1_e, e1, ob2_e, show (1 : Int32) + nI q5 = nI (1 + q5) from nI_a 1 q5, w2, ob1_e, f1, ob2_e, show (1 : Int32) + nI q6 = nI (1 + q6) from nI_a 1 q6, w3, ob1_e, w4, ob1_e, g1, ob2_e, show (7 : Int32) = nI 7 from rfl, i1, ob2_e]
  rw [nI_m, nI_m]
  rw [show (nI 7 : Int32) = (7 : Int32) from rfl]
  rw [w5, ob1_e, w6, ob1_e, w7, ob1_e, w8, ob1_e, hf, gLt_t hnS, ob1_e]
  refine ok_ob3 (ok_mono (s_row (rF := rF) hF hU hk h (by omega)) fun x hx => ?_)
  rw [ob1_e, ob1_e, nI_s]
  exact ok_some ⟨rfl, r8, rfl, f, rfl, hU, y0, hlen, hx⟩
end ST
