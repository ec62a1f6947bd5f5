/-! pure: what was written is loaded -/
def JfOK (φ : MS) (g : Nat) : Prop := φ 0 0 = nI (nv (φ 0 0)) ∧ nv (φ 0 0) < 1000 ∧ φ 1 0 = nI (g + 1) ∧ φ 2 0 = 0 ∧ φ 3 0 = -1 ∧ φ 4 0 = -1
/-- a world of the law's, newly made -/
def WD (ζ κ : MS) (K : Nat) (Φ Ψ : WS) (Ns : PA) (J W P : Nat) : Prop := K ≤ 3 ∧ J ≤ 4 ∧ W ≤ 9 ∧ P ≤ 9 ∧ (∀ k, k < K → StkOK (κ k)) ∧ (∀ j, j < J → JrOK K (Ψ j) (Ns j) ∧ 1 ≤ Ns j ∧ Ns j ≤ 9 ∧ JfOK (Φ j) (nv (Ψ j (Ns j - 1) 0))) ∧ ζ 0 0 = 0 ∧ ζ 1 0 = (if W = 0 then 5 else nI W) ∧ ζ 2 0 = (if P = 0 then 3 else nI P) ∧ ζ 3 0 = 0
theorem bd_n2 {n : Nat} {a b : Int} (hn : n < 100000) (h1 : a ≤ n) (h2 : (n : Int) ≤ b) : bd (nI n) a b := by
  unfold bd
  rw [nI_toInt (by omega)]
  exact ⟨h1, h2⟩
theorem off_f {Ns : PA} : ∀ (m s : Nat), s < off Ns m → ∃ j x, j < m ∧ x < Ns j ∧ s = off Ns j + x
  | 0, s, h => absurd h (Nat.not_lt_zero _)
  | m + 1, s, h => by
    by_cases q : s < off Ns m
    · obtain ⟨j, x, h1, h2, h3⟩ := off_f m s q
      exact ⟨j, x, by omega, h2, h3⟩
    · have h : s < off Ns m + Ns m := h
      exact ⟨m, s - off Ns m, by omega, by omega, by omega⟩
theorem jr_mono {K M : Nat} {f : Nat → FS} (h : JrOK K f M) {x : Nat} : ∀ y, x ≤ y → y < M → nv (f x 0) ≤ nv (f y 0) := by
  intro y
  induction y with
  | zero => intro h1 _; obtain rfl : x = 0 := by omega
            exact Nat.le_refl _
  | succ y ih =>
    intro h1 h2
    by_cases e : x = y + 1
    · subst e; exact Nat.le_refl _
    · have := ih (by omega) (by omega)
      have := h.2.2 y h2
      omega
section LD
variable {F n : Nat} {β : FS} {τ σ σ1 ζ κ : MS} {Φ Ψ : WS} {Ns : PA} {K J W P : Nat}
theorem wd_of (hw : WD ζ κ K Φ Ψ Ns J W P) (hK : KT τ κ K) (hJ : JT τ Φ Ψ Ns J) (h0 : τ 0 0 = (if W = 0 then 5 else nI W)) (h1 : τ 1 0 = (if P = 0 then 3 else nI P)) : Sn τ = K ∧ Jn τ = J ∧ NR τ Ns ∧ SI τ ∧ SM τ ∧ R16 τ := by
  obtain ⟨w1, w2, w3, w4, w5, w6, w7, w8, w9, w10⟩ := hw
  obtain ⟨k1, k2⟩ := hK
  obtain ⟨j1, j2, j3⟩ := hJ
  have hoff := off_9 (fun j hj => (w6 j hj).2.2.1) J (Nat.le_refl _)
  have eS : Sn τ = K := by unfold Sn; rw [k1, nv_nI (by omega)]
  have eJ : Jn τ = J := by unfold Jn; rw [j1, nv_nI (by omega)]
  have eN : Nn τ = off Ns J := by unfold Nn; rw [j2, nv_nI (by omega)]
  have hoj : ∀ j, j < J → off Ns j + Ns j ≤ off Ns J := fun j hj => off_le (Ns := Ns) (show j + 1 ≤ J by omega)
  have eA : ∀ j, j < J → An τ j = off Ns j := fun j hj => by have := hoj j hj; unfold An; rw [(j3 j hj).2.2.1, nv_nI (by omega)]
  have eE : ∀ j, j < J → En τ j = off Ns j + Ns j := fun j hj => by have := hoj j hj; unfold En; rw [(j3 j hj).2.2.2.1, nv_nI (by omega)]
  have hst : ∀ s, s < off Ns J → ∃ j x, j < J ∧ x < Ns j ∧ s = off Ns j + x ∧ stq τ s (Ψ j x) ∧ UniOK K (Ψ j x) := fun s hs => by
    obtain ⟨j, x, a1, a2, a3⟩ := off_f J s hs
    exact ⟨j, x, a1, a2, a3, by rw [a3]; exact (j3 j a1).2.2.2.2 x a2, ((w6 j a1).1.1 x a2).1⟩
  refine ⟨eS, eJ, fun j hj => ?_, ⟨⟨?_, ?_⟩, ⟨?_, ?_⟩, ⟨?_, ?_⟩, fun j hj => ?_, ⟨?_, fun j hj => ?_⟩, ?_, fun k hk => ?_, fun j hj => ?_, fun s hs => ?_⟩, ⟨?_, ?_, fun j hj => ?_⟩, fun s hs => ?_⟩
  · rw [eJ] at hj
    rw [eA j hj, eE j hj]
    omega
  · rw [eS]; exact k1
  · omega
  · rw [eJ]; exact j1
  · omega
  · rw [eN]; exact j2
  · omega
  · rw [eJ] at hj
    rw [eA j hj, eE j hj, eN]
    have := hoj j hj
    have := (w6 j hj).2.1
    exact ⟨(j3 j hj).2.2.1, (j3 j hj).2.2.2.1, by omega, by omega⟩
  · unfold Bn
    rw [eJ, eN]
    split
    · next z => rw [eA 0 z]; rfl
    · next z =>
      obtain rfl : J = 0 := by omega
      rfl
  · rw [eJ] at hj
    unfold Bn
    rw [eE j hj, eJ, eN]
    split
    · next z => rw [eA _ z]; rfl
    · next z =>
      obtain rfl : J = j + 1 := by omega
      rfl
  · rw [h1]
    split
    · exact ⟨by decide, by decide⟩
    · exact bd_n2 (by omega) (by omega) (by omega)
  · rw [eS] at hk
    obtain ⟨q1, q2, -⟩ := w5 k hk
    rw [(k2 k hk).1, q1]
    exact bd_n2 (by omega) (by omega) (by omega)
  · rw [eJ] at hj
    rw [eA j hj, eE j hj]
    obtain ⟨y1, y2, y3, y4⟩ := w6 j hj
    have hlast := (y1.1 (Ns j - 1) (by omega)).1.2.1
    have eC : Cn τ j = nv (Ψ j (Ns j - 1) 0) + 1 := by unfold Cn; rw [(j3 j hj).2.1, nv_nI (by omega)]
    have hG : ∀ s, off Ns j ≤ s → s < off Ns j + Ns j → τ 11 s = Ψ j (s - off Ns j) 0 ∧ Gn τ s = nv (Ψ j (s - off Ns j) 0) := fun s g1 g2 => by
      have := (j3 j hj).2.2.2.2 (s - off Ns j) (by omega)
      rw [show off Ns j + (s - off Ns j) = s by omega] at this
      exact ⟨this.1, by unfold Gn; rw [this.1]⟩
    refine ⟨by rw [eC]; exact (j3 j hj).2.1, by omega, by omega, fun s g1 g2 => ?_, fun s t g1 g2 g3 => ?_⟩
    · obtain ⟨z1, z2⟩ := hG s g1 g2
      have hu := (y1.1 (s - off Ns j) (by omega)).1
      refine ⟨by rw [z2, z1]; exact hu.1 0 (by decide), ?_⟩
      rw [z2, eC]
      have := jr_mono y1 (x := s - off Ns j) (Ns j - 1) (by omega) (by omega)
      omega
    · rw [(hG s g1 (by omega)).2, (hG t (by omega) g3).2]
      exact jr_mono y1 _ (by omega) (by omega)
  · rw [eN] at hs
    obtain ⟨j, x, a1, a2, a3, ⟨s1, s2, s3, s4, s5, s6⟩, ⟨u0, u1, u2, u3, u4, u5, u6, u7, u8, u9, u10, u11⟩⟩ := hst s hs
    have hKn : Kn τ s = nv (Ψ j x 1) := by unfold Kn; rw [s2]
    refine ⟨by rw [hKn, s2]; exact u0 1 (by decide), by rw [hKn, eS]; exact u2, ?_, ?_, ?_⟩
    · rw [s3, u0 2 (by decide)]; exact bd_n2 (by omega) (by omega) (by omega)
    · rw [s4, u0 3 (by decide)]; exact bd_n2 (by omega) (by omega) (by omega)
    · rw [s5, u0 5 (by decide)]; exact bd_n2 (by omega) (by omega) (by omega)
  · omega
  · omega
  · rw [eJ] at hj
    rw [eA j hj, eE j hj]
    have := (w6 j hj).2.2.1
    omega
  · rw [eN] at hs
    obtain ⟨j, x, a1, a2, a3, ⟨s1, s2, s3, s4, s5, s6⟩, ⟨u0, u1, u2, u3, u4, u5, u6, u7, u8, u9, u10, u11⟩⟩ := hst s hs
    rw [s6, u0 6 (by decide), nI_toInt (by omega)]
    omega
theorem begin_c (F : Nat) (τ σ : MS) : ∃ σ1, mX2_begin F τ σ = some σ1 ∧ (∀ x, σ1 1 x = 0) ∧ (∀ x, σ1 2 x = 0) ∧ (∀ x, σ1 3 x = τ 3 x) ∧ (∀ x, σ1 5 x = 0) ∧ (∀ x, σ1 9 x = 0) ∧ (∀ x, σ1 10 x = τ 15 x) ∧ ∀ x, σ1 11 x = τ 16 x := ⟨_, rfl, fun _ => rfl, fun _ => rfl, fun _ => rfl, fun _ => rfl, fun _ => rfl, fun _ => rfl, fun _ => rfl⟩
theorem wd_ps (hw : WD ζ κ K Φ Ψ Ns J W P) (hK : KT τ κ K) (hJ : JT τ Φ Ψ Ns J) (h0 : τ 0 0 = (if W = 0 then 5 else nI W)) (h1 : τ 1 0 = (if P = 0 then 3 else nI P)) (b1 : ∀ x, σ1 1 x = 0) (b2 : ∀ x, σ1 2 x = 0) (b3 : ∀ x, σ1 3 x = τ 3 x) (b5 : ∀ x, σ1 5 x = 0) (b9 : ∀ x, σ1 9 x = 0) (b10 : ∀ x, σ1 10 x = τ 15 x) (b11 : ∀ x, σ1 11 x = τ 16 x) : PS τ 10000 0 σ1 ζ κ Φ Ψ := by
  obtain ⟨eS, eJ, hN, hI, hM, hR⟩ := wd_of hw hK hJ h0 h1
  obtain ⟨w1, w2, w3, w4, w5, w6, w7, w8, w9, w10⟩ := hw
  obtain ⟨k1, k2⟩ := hK
  obtain ⟨j1, j2, j3⟩ := hJ
  have hoff := off_9 (fun j hj => (w6 j hj).2.2.1) J (Nat.le_refl _)
  have hoj : ∀ j, j < J → off Ns j + Ns j ≤ off Ns J := fun j hj => off_le (Ns := Ns) (show j + 1 ≤ J by omega)
  have eA : ∀ j, j < J → An τ j = off Ns j := fun j hj => by have := hoj j hj; unfold An; rw [(j3 j hj).2.2.1, nv_nI (by omega)]
  have eE : ∀ j, j < J → En τ j = off Ns j + Ns j := fun j hj => by have := hoj j hj; unfold En; rw [(j3 j hj).2.2.2.1, nv_nI (by omega)]
  refine ⟨⟨⟨?_, ?_, ?_, ?_⟩, fun k hk => ⟨?_, ?_⟩, fun j hj => ?_, fun j hj i hi => ?_⟩, ⟨fun k hk => ?_, fun j hj => ⟨fun s g1 g2 => ⟨?_, fun z => ?_⟩, ⟨?_, fun z => ?_, fun z => ?_, fun z => ?_⟩⟩, ?_, fun i => ?_⟩, fun s hs => ?_⟩
  · rw [b1, w7]
  · rw [h0, w8]
  · rw [h1, w9]
  · rw [b2, w10]
  · rw [eS] at hk
    rw [b3, (k2 k hk).1]
  · rw [eS] at hk
    rw [(k2 k hk).2]
  · rw [eJ] at hj
    obtain ⟨f1, f2, f3, f4, f5, f6⟩ := (w6 j hj).2.2.2
    obtain ⟨x1, x2, -⟩ := j3 j hj
    refine ⟨by rw [x1]; exact f1, by rw [x2]; exact f3, by rw [b5]; exact f4, fun z => ?_, fun _ => f5, fun z => ?_, fun _ => f6, fun z => ?_⟩
    · rw [b5] at z; exact absurd z (by decide)
    · rw [b5] at z; exact absurd z (by decide)
    · rw [b5] at z; exact absurd z (by decide)
  · rw [eJ] at hj
    rw [eA j hj, eE j hj] at hi
    rw [eA j hj]
    obtain ⟨s1, s2, s3, s4, s5, s6⟩ := (j3 j hj).2.2.2.2 i (by omega)
    obtain ⟨u0, u1, u2, u3, u4, u5, u6, u7, u8, u9, u10, u11, u12⟩ := ((w6 j hj).1.1 i (by omega)).1
    refine ⟨s1.symm, s2.symm, s3.symm, s4.symm, by rw [b9]; exact u8, by rw [b10]; exact s5.symm, by rw [b11]; exact s6.symm, by rw [s6]; exact u11, fun z => ?_, fun z => ?_⟩
    · rw [b9] at z; exact absurd z (by decide)
    · rw [b9] at z; exact absurd z (by decide)
  · rw [eS] at hk
    obtain ⟨q1, q2, -⟩ := w5 k hk
    rw [b3, (k2 k hk).1, q1]
    exact bd_n2 (by omega) (by omega) (by omega)
  · rw [b10]
    exact (hI.K (hI.sN hj g2)).2.2.2.2
  · rw [b9] at z; exact absurd z (by decide)
  · rw [b5]; exact ⟨by decide, by decide⟩
  · rw [b5] at z; exact absurd z (by decide)
  · rw [b5] at z; exact absurd z (by decide)
  · rw [b5] at z; exact absurd z (by decide)
  · rw [b1]; exact ⟨by decide, by decide⟩
  · rw [b1, b1]
  · rw [b11]; exact hR s hs
/-- what the load leaves -/
def LDQ (ζ κ : MS) (K : Nat) (Φ Ψ : WS) (Ns : PA) (J : Nat) (r : Int32 × PA × FS × MS × WS × PA × WS × Nat × FS) : Prop := r.1 = nI J ∧ ∃ τ, r.2.2.2.2.2.2.1 (r.2.2.2.2.2.1 0) = τ ∧ K = Sn τ ∧ J = Jn τ ∧ NR τ Ns ∧ SI τ ∧ SM τ ∧ R16 τ ∧ SDok r.2.2.2.2.2.1 r.2.2.2.2.2.2.2.1 ∧ PAok r.2.1 ∧ PS τ 10000 0 (r.2.2.2.2.1 0) ζ κ Φ Ψ ∧ r.2.2.2.1 1 0 = 0 ∧ ∃ u, u ≤ 8 ∧ r.2.2.2.1 6 0 = nI u
variable {υ υ0 : MS} {τs : WS} {pa : PA} {ω : WS} {sid : PA} {b : FS} {T : List Nat}
theorem l_load (hF : 5000 ≤ F) (hw : WD ζ κ K Φ Ψ Ns J W P) (hT : T = tAll κ K Φ Ψ Ns J W P) (h : WU T β υ b υ0) (hs : SDok sid n) (hp : PAok pa) {u : Nat} (hu : u ≤ 8) (h6 : υ0 6 0 = nI u) : ok (mL_loadText F τs n pa β υ ω sid b) (LDQ ζ κ K Φ Ψ Ns J) := by
  obtain ⟨h1, ⟨w1, w2, w3, w4, w5, w6⟩, h3⟩ := h
  have hlm : (T.map nI).length = T.length := List.length_map ..
  rw [hlm] at w1 w3 w4 w5 w6
  generalize hm : T.length = m at *
  have hrd : rd b 8 (0 : Int32) = some (nI m) := by rw [← w5]; exact rd_at (k := 0) (by decide) (by decide)
  have e20 : nI m - nI m / (20 : Int32) * (20 : Int32) = nI (m % 20) := nI_r (b := 20) (by omega) (by decide) (by decide)
  have hpre : ∃ β2 υ3 b4 k, (if nI (m % 20) ≤ (0 : Int32) then some (β, υ, b) else ob3 (mL_flush F τs n pa β υ ω sid b) fun β8 υ9 b10 => some (β8, υ9, b10)) = some (β2, υ3, b4) ∧ (∀ x, x < m → β2 x = nI (T.getD x 0)) ∧ υ3 1 0 = nI k ∧ m ≤ k ∧ k ≤ 700 ∧ ∀ q, q ≠ 1 → υ3 q = υ0 q := by
    by_cases q : m % 20 = 0
    · rw [if_pos (by rw [q]; decide)]
      refine ⟨β, υ, b, 20 * (m / 20), rfl, fun x hx => ?_, w3, by omega, by omega, h3⟩
      rw [w4 x (by omega), getD_nI]
    · rw [if_neg (show ¬ nI (m % 20) ≤ (0 : Int32) from nle (a := 0) (by decide) (by omega) (by omega))]
      obtain ⟨β1, υ1, b1, f1, f2, f3, f4, f5, f6⟩ := l_flush (F := F) (τs := τs) (n := n) (pa := pa) (ω := ω) (sid := sid) hF w2 w3 w4 w6 (by omega)
      refine ⟨β1, υ1, b1, 20 * (m / 20) + 20, by rw [f1, ob3_e], fun x hx => ?_, f2, by omega, by omega, fun q hq => (f3 q hq).trans (h3 q hq)⟩
      rw [f4 x (by omega), getD_nI]
  obtain ⟨β2, υ3, b4, k, p1, p2, p3, p4, p5, p6⟩ := hpre
  have hTX : TX T β2 := ⟨h1, fun x hx => p2 x (by omega), by omega⟩
  obtain ⟨x1, x2, x3, x4, x5, x6, x7, x8, x9, x10⟩ := hw
  obtain ⟨τ1, ρ1, r1, r2, r3, r4, r5, r6⟩ := r_setup (F := F) hTX hF hT x5 x1 (fun j hj => ⟨(x6 j hj).1, (x6 j hj).2.1, (x6 j hj).2.2.1, (x6 j hj).2.2.2.2.1⟩) x2 x3 x4
  rw [hm] at r1
  have hw : WD ζ κ K Φ Ψ Ns J W P := ⟨x1, x2, x3, x4, x5, x6, x7, x8, x9, x10⟩
  obtain ⟨eS, eJ, hN, hI, hM, hR⟩ := wd_of hw r3 r4 r5 r6
  have hυ6 : pf (pf υ3 1 (0 : Int32)) 2 (ρ1 2 0) 6 0 = nI u := by rw [pf_at, if_neg (by decide), pf_at, if_neg (by decide), p6 6 (by decide), h6]
  obtain ⟨pa1, υ4, ω1, sid1, q1, u1, q2, q3, q4, q5, q6, q7, q8, q9, q10, q11⟩ := rem_c (F := F) hF (τs := τs) (n := n) (β := β2) (ω := ω) hs hp hu hυ6
  obtain ⟨σ1, c1, c2, c3, c4, c5, c6, c7, c8⟩ := begin_c F τ1 (ω1 0)
  have hgL : gL sid1 n = some () := by
    unfold gL
    rw [if_pos (List.all_eq_true.mpr fun v hv => decide_eq_true (q7 v (List.mem_range.mp hv)))]
  have hload : mX3_load F τs n pa β2 υ3 ω sid (nI m) = some (.inr (τ1 5 0, pa1, υ4, va_up ω1 0 σ1, va_up sid1 0 n, va_up τs n τ1, n + 1)) := by
    unfold mX3_load
    rw [if_neg (show ¬ nI m < (0 : Int32) from fun z => Nat.not_lt_zero _ ((nI_lt2 (b := 0) (by omega) (by decide)).mp z)), p3, if_pos ((nI_leI (by omega) (by omega)).mpr p4), ob1_e, cnd_F, r1, ob2_e, ob1_e, ob1_e, if_pos r2, q1, ob4_e, hgL, ob1_e, c1, ob1_e]
  refine ok_eq (x := (τ1 5 0, pa1, β2, υ4, va_up ω1 0 σ1, va_up sid1 0 n, va_up τs n τ1, n + 1, upd b4 0 0)) ?_ ⟨r4.1, τ1, ?_, eS.symm, eJ.symm, hN, hI, hM, hR, fun v hv => ?_, q8, ?_, ?_, u1, q2, q5⟩
  · unfold mL_loadText
    rw [hrd, ob1_e, e20, p1, ob3_e, show wr b4 8 (0 : Int32) (0 : Int32) = some (upd b4 0 0) from wr_at (k := 0) (by decide) (by decide), ob1_e, hload, hEl_R, ob1_e, ob1_e, ob1_e, ob1_e, ob1_e, ob1_e, ob1_e, ob1_e]
    rfl
  · show va_up τs n τ1 (va_up sid1 0 n 0) = τ1
    rw [va_up_self, va_up_self]
  · show va_up sid1 0 n v < n + 1
    by_cases z : v = 0
    · subst z; rw [va_up_self]; omega
    · rw [va_up_ne _ _ z]
      have := q7 v hv
      omega
  · show PS τ1 10000 0 (va_up ω1 0 σ1 0) ζ κ Φ Ψ
    rw [va_up_self]
    exact wd_ps hw r3 r4 r5 r6 c2 c3 c4 c5 c6 c7 c8
  · show υ4 1 0 = 0
    rw [q6 1 (by decide), pf_at, if_neg (by decide), pf_at, if_pos rfl]
end LD
