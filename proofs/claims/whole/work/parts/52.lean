/-! pure: both readers at a number, at a word -/
theorem m_dig {F : Nat} {x : Int32} : mX4_isDigit F x = some (b01 (isD x)) := by
  unfold mX4_isDigit mX4_in isD
  by_cases h1 : x < 48 <;> by_cases h2 : (57 : Int32) < x <;> simp [h1, h2, ob1, cnd, b01]
theorem m_let {F : Nat} {x : Int32} : mX4_in F x (97 : Int32) (122 : Int32) = some (b01 (isA x)) := by
  unfold mX4_in isA
  by_cases h1 : x < 97 <;> by_cases h2 : (122 : Int32) < x <;> simp [h1, h2, ob1, cnd, b01]
theorem isA_D {x : Int32} (h : isA x = true) : isD x = false := by
  unfold isA at h
  unfold isD
  rw [Bool.and_eq_true, Bool.not_eq_true', decide_eq_false_iff_not, ltI, show (97 : Int32).toInt = 97 from rfl] at h
  have : (57 : Int32) < x := by rw [ltI, show (57 : Int32).toInt = 57 from rfl]; omega
  simp [this]
section WN
variable {T : FS} {L : Nat} {ν τ ρ μ : MS} {X Y : XT} {b : Nat} {F : Nat} {β : FS}
theorem kd_1 {i : Nat} : isK T L 1 i = isD (byt T L i) := by
  unfold isK kd byt
  by_cases h : L ≤ i
  · rw [if_pos h, if_pos h]
    have : ¬ i < L := by omega
    simp [this]; decide
  · rw [if_neg h, if_neg h]
    have : i < L := by omega
    cases isD (T i)
    · cases isA (T i) <;> cases isG (T i) <;> by_cases q : T i = 32 <;> simp [q, this]
    · simp [this]
theorem kd_2 {i : Nat} : isK T L 2 i = isA (byt T L i) := by
  unfold isK kd byt
  by_cases h : L ≤ i
  · rw [if_pos h, if_pos h]
    have : ¬ i < L := by omega
    simp [this]; decide
  · rw [if_neg h, if_neg h]
    have : i < L := by omega
    cases ha : isA (T i)
    · cases isD (T i) <;> cases isG (T i) <;> by_cases q : T i = 32 <;> simp [q, this]
    · simp [this, isA_D ha]
theorem kd_1p {p : Nat} : kd T L p = 1 ↔ isD (byt T L p) = true := by
  rw [← kd_1]
  unfold isK
  constructor
  · intro h
    have := kd_lt (T := T) (L := L) (p := p) (by rw [h]; decide)
    simp [h, this]
  · intro h
    rw [Bool.and_eq_true, decide_eq_true_eq, decide_eq_true_eq] at h
    exact h.2
theorem kd_2p {p : Nat} : kd T L p = 2 ↔ isA (byt T L p) = true := by
  rw [← kd_2]
  unfold isK
  constructor
  · intro h
    have := kd_lt (T := T) (L := L) (p := p) (by rw [h]; decide)
    simp [h, this]
  · intro h
    rw [Bool.and_eq_true, decide_eq_true_eq, decide_eq_true_eq] at h
    exact h.2
theorem te_1 {p : Nat} (h : kd T L p = 1) : te T L p = skp (isK T L 1) 1000 p := by
  unfold te
  rw [h, if_neg (by decide)]
theorem te_2 {p : Nat} (h : kd T L p = 2) : te T L p = skp (isK T L 2) 1000 p := by
  unfold te
  rw [h, if_neg (by decide)]
theorem m_numL (hF : 5000 ≤ F) (hL : L ≤ 700) {μ9 : MS} (h3 : μ9 3 0 = nI L) (hT : μ9 1 = T) {p : Nat} {lo hi : Int32} (hp : p ≤ L) (h4 : μ9 4 0 = nI p) (hk : kd T L p = 1) : ok (loopM (fun st : Int32 × MS => mX4_number_L41 F lo hi st.1 st.2) F ((0 : Int32), μ9)) (fun r => r.1 = nm T L p ∧ r.2 4 0 = nI (te T L p) ∧ ∀ q, q ≠ 4 → r.2 q = μ9 q) := by
  have hte := te_1 hk
  refine ok_scan (f := fun st : Int32 × MS => mX4_number_L41 F lo hi st.1 st.2) (isK T L 1) (fun i a => p ≤ i ∧ i ≤ L ∧ a.2 4 0 = nI i ∧ a.1 = nb T p i ∧ ∀ q, q ≠ 4 → a.2 q = μ9 q) (fun i a hR hP => ?_) 1000 p F ((0 : Int32), μ9) (by omega) ⟨Nat.le_refl _, hp, h4, by unfold nb; rw [Nat.sub_self]; rfl, fun _ _ => rfl⟩ (skp_out (fun i h => isK_lt h) 1000 p (by omega)) (fun a hR => ?_)
  · obtain ⟨v, μ1⟩ := a
    obtain ⟨r0, r1, z2, z3, z4⟩ := hR
    have r2 : μ1 4 0 = nI i := z2
    have r3 : v = nb T p i := z3
    have r4 : ∀ q, q ≠ 4 → μ1 q = μ9 q := z4
    clear z2 z3 z4
    have hi' := isK_lt hP
    have hby : byt T L i = T i := by unfold byt; rw [if_neg (by omega)]
    show ok (mX4_number_L41 F lo hi v μ1) _
    unfold mX4_number_L41
    have hb := m_byte (F := F) (T := T) (μ := μ1) (L := L) (i := i) (by rw [r4 3 (by decide)]; exact h3) (by rw [r4 1 (by decide)]; exact hT) hL (by omega)
    rw [r2, hb, ob1_e, m_dig, ← kd_1, hP, ob1_e, if_neg (by decide), ob1_e, hby]
    have hmin : mX4_min F 1000000 ((((10 : Int32) * v) + T i) - 48) = some (nst v (T i)) := by
      unfold mX4_min nst
      by_cases q : (((10 : Int32) * v) + T i) - 48 < 1000000
      · rw [if_pos (Int32.le_of_lt q), if_pos q, ob1_e]
      · rw [if_neg q]
        by_cases q2 : (((10 : Int32) * v) + T i) - 48 ≤ 1000000
        · have : (((10 : Int32) * v) + T i) - 48 = 1000000 := by
            rw [ltI] at q; rw [leI] at q2; rw [eqI]; omega
          rw [if_pos q2, ob1_e, this]
        · rw [if_neg q2, ob1_e]
    rw [hmin, ob1_e, ob1_e]
    refine ok_some ⟨_, rfl, by omega, hi', ?_, ?_, fun q hq => ?_⟩
    · show pf μ1 4 (nI i + 1) 4 0 = _
      rw [pf_at, if_pos rfl, nI_s]
    · show nst v (T i) = _
      rw [nb_s r0, r3]
    · show pf μ1 4 (nI i + 1) q = _
      funext x; rw [pf_n _ _ _ _ _ hq, r4 q hq]
  · obtain ⟨v, μ1⟩ := a
    rw [← hte] at hR
    obtain ⟨r0, r1, z2, z3, z4⟩ := hR
    have r2 : μ1 4 0 = nI (te T L p) := z2
    have r3 : v = nb T p (te T L p) := z3
    have r4 : ∀ q, q ≠ 4 → μ1 q = μ9 q := z4
    clear z2 z3 z4
    show ok (mX4_number_L41 F lo hi v μ1) _
    unfold mX4_number_L41
    have hb := m_byte (F := F) (T := T) (μ := μ1) (L := L) (i := te T L p) (by rw [r4 3 (by decide)]; exact h3) (by rw [r4 1 (by decide)]; exact hT) hL (by omega)
    have hout := skp_out (P := isK T L 1) (fun i h => isK_lt h) 1000 p (by omega)
    rw [← hte] at hout
    rw [r2, hb, ob1_e, m_dig, ← kd_1, hout, ob1_e, if_pos (by decide)]
    exact ok_some ⟨_, rfl, by show v = _; rw [r3]; unfold nm; rw [if_pos hk], r2, r4⟩
theorem PR.num (hF : 5000 ≤ F) (hB : BT β T L) (h : PR T L ν X b τ ρ μ) (lo hi : Int32) : ∃ r ρ' r' μ', mX1_readNumber F β τ ρ lo hi = some (r, ρ') ∧ mX4_number F μ lo hi = some (r', μ') ∧ PR T L ν X b τ ρ' μ' ∧ (μ' 5 0 = 0 → r = r' ∧ ¬ r < lo ∧ ¬ hi < r ∧ μ' 13 0 = ρ 8 0) := by
  have hL := hB.1
  have h0 := h
  obtain ⟨⟨⟨c1, c2, c3, c4⟩, hs, ⟨p0, hp1, hp2⟩, cc, hcc, hc4⟩, h1, h2, h3⟩ := h
  by_cases hg : μ 5 0 = 0
  · obtain ⟨⟨p, c', p1, p2, p3, p4, p5, p6⟩, hX⟩ := h3 hg
    obtain ⟨r, l1, l2, l3, l4⟩ := m_nextB (F := F) hF c2 c3 hL p3 p4
    rw [p5] at l2 l3
    have hPR2 : PR T L ν X b τ ρ r.2 := ⟨⟨⟨c1, by rw [l4 3 (by decide)]; exact c2, by rw [l4 1 (by decide)]; exact c3, fun q a b c d e f => by rw [l4 q a, c4 q a b c d e f]⟩, hs, ⟨p0, hp1, hp2⟩, p, p1, l3⟩, by rw [l4 5 (by decide)]; exact h1, by rw [l4 6 (by decide)]; exact h2, fun _ => ⟨⟨p, p, p1, p2, p1, l3, by rw [← p5, sk_sk hL], p6⟩, by rw [l4 9 (by decide), l4 14 (by decide)]; exact hX⟩⟩
    unfold mX1_readNumber mX4_number
    rw [m_goodT hg, ob1_e, if_neg (show ¬ (1 : Int32) = 0 by decide), l1]
    show ∃ r1 ρ' r' μ', _ ∧ ob1 (mX4_isDigit F r.1) _ = some (r', μ') ∧ _
    rw [m_dig, ob1_e, l2, p2.2.1]
    by_cases hk : kd T L p = 1
    · have hd := kd_1p.mp hk
      rw [if_pos hk, hd, if_neg (show ¬ b01 true = 0 by decide), ob1_e]
      have hz : ∀ q, q ≠ 13 → pf r.2 13 (r.2 4 0) q = r.2 q := fun q hq => by funext x; rw [pf_n _ _ _ _ _ hq]
      obtain ⟨rr, n1, n2, n3, n4⟩ := m_numL (F := F) (T := T) (L := L) (μ9 := pf r.2 13 (r.2 4 0)) (lo := lo) (hi := hi) hF hL (by rw [hz 3 (by decide), l4 3 (by decide)]; exact c2) (by rw [hz 1 (by decide), l4 1 (by decide)]; exact c3) p1 (by rw [hz 4 (by decide)]; exact l3) hk
      rw [n1, p2.2.2.2]
      show ∃ r1 ρ' r' μ', _ ∧ ob1 (mX4_in F rr.1 lo hi) _ = some (r', μ') ∧ _
      rw [n2]
      have h13 : rr.2 13 0 = nI p := by rw [n4 13 (by decide), pf_at, if_pos rfl, l3]
      have hq : ∀ q, q ≠ 4 → q ≠ 13 → rr.2 q = μ q := fun q a b => by rw [n4 q a, hz q b, l4 q a]
      have hte := te_le (T := T) hL p1
      have hin : (nm T L p < lo ∨ hi < nm T L p) ∨ (¬ nm T L p < lo ∧ ¬ hi < nm T L p) := by
        by_cases a : nm T L p < lo
        · exact Or.inl (Or.inl a)
        · by_cases b : hi < nm T L p
          · exact Or.inl (Or.inr b)
          · exact Or.inr ⟨a, b⟩
      have hle : nm T L p ≤ hi ↔ ¬ hi < nm T L p := by rw [leI, ltI]; omega
      have hcmd : Cm T L ν τ ρ rr.2 := ⟨⟨c1, by rw [hq 3 (by decide) (by decide)]; exact c2, by rw [hq 1 (by decide) (by decide)]; exact c3, fun q a b c d e f => by rw [hq q a e, c4 q a b c d e f]⟩, hs, ⟨p0, hp1, hp2⟩, _, hte, n3⟩
      rcases hin with hin | ⟨hi1, hi2⟩
      · have hc : (if nm T L p < lo then some true else (if nm T L p ≤ hi then some false else some true)) = some true := by
          rcases hin with a | a
          · rw [if_pos a]
          · by_cases b : nm T L p < lo
            · rw [if_pos b]
            · rw [if_neg b, if_neg (fun q => hle.mp q a)]
        have hm : mX4_in F (nm T L p) lo hi = some 0 := by
          unfold mX4_in
          rcases hin with a | a
          · rw [if_pos a]; rfl
          · by_cases b : nm T L p < lo
            · rw [if_pos b]; rfl
            · rw [if_neg b, if_pos a]; rfl
        obtain ⟨ρ', μ', f1, f2, f3, f4⟩ := hcmd.fail (F := F) (β := β) (by rw [hq 5 (by decide) (by decide)]; exact h1) (by rw [hq 6 (by decide) (by decide)]; exact h2) (e := -3) (o := ρ 8 0) (o' := rr.2 13 0) (by decide) (fun _ => by rw [h13, p2.1]) X b
        rw [hc, ob1_e, cnd_T, f1, ob1_e, hm, ob1_e, if_pos rfl, f2, ob1_e, ob1_e]
        exact ⟨_, _, _, _, rfl, rfl, f3, fun q => absurd q f4⟩
      · have hc : (if nm T L p < lo then some true else (if nm T L p ≤ hi then some false else some true)) = some false := by
          rw [if_neg hi1, if_pos (hle.mpr hi2)]
        have hm : mX4_in F (nm T L p) lo hi = some 1 := by
          unfold mX4_in
          rw [if_neg hi1, if_neg hi2]; rfl
        obtain ⟨ρ', m1, m2, m3, m4⟩ := PR.adv (F := F) (τ := τ) hF hB c1 p1 p2
        rw [hc, ob1_e, cnd_F, m1, ob1_e, hm, ob1_e, if_neg (show ¬ (1 : Int32) = 0 by decide), ob1_e]
        refine ⟨_, _, _, _, rfl, rfl, ⟨⟨⟨by rw [m4 4 (by decide)]; exact c1, hcmd.1.2.1, hcmd.1.2.2.1, hcmd.1.2.2.2⟩, hs, ⟨_, m3, m2⟩, _, hte, n3⟩, by rw [m4 1 (by decide), hq 5 (by decide) (by decide)]; exact h1, by rw [m4 2 (by decide), hq 6 (by decide) (by decide)]; exact h2, fun _ => ⟨⟨_, _, m3, m2, hte, n3, rfl, ?_⟩, ?_⟩⟩, fun _ => ⟨rfl, hi1, hi2, h13.trans p2.1.symm⟩⟩
        · have := sk_ge (T := T) (L := L) (te T L p)
          have := te_ge (T := T) (L := L) (p := p)
          omega
        · rw [m4 5 (by decide), m4 6 (by decide), hq 9 (by decide) (by decide), hq 14 (by decide) (by decide)]; exact hX
    · have hd : isD (byt T L p) = false := by
        cases q : isD (byt T L p)
        · rfl
        · exact absurd (kd_1p.mpr q) hk
      rw [if_neg hk, hd, if_pos (show b01 false = 0 by decide)]
      obtain ⟨ρ', μ', f1, f2, f3, f4⟩ := hPR2.fail (F := F) (β := β) (e := -2) (o := ρ 8 0) (o' := r.2 4 0) (by decide) (fun _ => by rw [l3, p2.1]) X b
      rw [f1, ob1_e, f2, ob1_e]
      exact ⟨_, _, _, _, rfl, rfl, f3, fun q => absurd q f4⟩
  · have hρ : ρ 1 0 ≠ 0 := fun q => hg (h1.symm.trans q)
    unfold mX1_readNumber mX4_number
    rw [m_goodF hg, ob1_e, if_pos rfl, c_fail0 hρ, c_fail0 hρ, ob1_e]
    obtain ⟨ρ', m1, m2, m3, m4⟩ := PR.adv (F := F) (τ := τ) hF hB c1 hp1 hp2
    rw [m1, ob1_e]
    have hadv : PR T L ν X b τ ρ' μ := ⟨⟨⟨by rw [m4 4 (by decide)]; exact c1, c2, c3, c4⟩, hs, ⟨_, m3, m2⟩, cc, hcc, hc4⟩, by rw [m4 1 (by decide)]; exact h1, by rw [m4 2 (by decide)]; exact h2, fun q => absurd q hg⟩
    by_cases hk : ρ 7 0 = 1
    · rw [if_pos hk]
      have : ∃ t, (if (ρ 10 0) < lo then some true else (if (ρ 10 0) ≤ hi then some false else some true)) = some t := by
        split
        · exact ⟨_, rfl⟩
        · split
          · exact ⟨_, rfl⟩
          · exact ⟨_, rfl⟩
      obtain ⟨t, ht⟩ := this
      rw [ht, ob1_e]
      cases t with
      | true => exact ⟨_, _, _, _, rfl, rfl, h0, fun q => absurd q hg⟩
      | false => exact ⟨_, _, _, _, rfl, rfl, hadv, fun q => absurd q hg⟩
    · rw [if_neg hk]
      exact ⟨_, _, _, _, rfl, rfl, h0, fun q => absurd q hg⟩
/-- the word l stands at p -/
def am (T : FS) (L p : Nat) (l : List Int32) : Bool := decide (∀ i, i < l.length → byt T L (p + i) = l.getD i 0)
theorem sW_ok : ∀ w, w < 9 → sW (w + 9) = sW w ∧ 0 < (sW w).length ∧ (sW w).length < 10 ∧ ∀ i, i < (sW w).length → isA ((sW w).getD i 0) = true := by decide +kernel
theorem isA_rg {x : Int32} (h : isA x = true) : 0 ≤ x.toInt ∧ x.toInt < 128 := by
  unfold isA at h
  rw [Bool.and_eq_true, Bool.not_eq_true', Bool.not_eq_true', decide_eq_false_iff_not, decide_eq_false_iff_not, ltI, ltI, show (97 : Int32).toInt = 97 from rfl, show (122 : Int32).toInt = 122 from rfl] at h
  omega
theorem am_kd {p w : Nat} (hw : w < 9) (h : am T L p (sW w) = true) : kd T L p = 2 ∧ ∀ i, i < (sW w).length → isK T L 2 (p + i) = true := by
  obtain ⟨-, w2, -, w4⟩ := sW_ok w hw
  unfold am at h
  rw [decide_eq_true_eq] at h
  have : ∀ i, i < (sW w).length → isK T L 2 (p + i) = true := fun i hi => by rw [kd_2, h i hi]; exact w4 i hi
  refine ⟨?_, this⟩
  have h0 := this 0 w2
  rw [kd_2] at h0
  exact kd_2p.mpr h0
theorem am_te {p w : Nat} (hw : w < 9) (h : am T L p (sW w) = true) (hL : L ≤ 700) (hp : p ≤ L) : (te T L p = p + (sW w).length) ↔ isA (byt T L (p + (sW w).length)) = false := by
  obtain ⟨hk, hin⟩ := am_kd hw h
  obtain ⟨-, w2, w3, w4⟩ := sW_ok w hw
  rw [te_2 hk, ← kd_2]
  constructor
  · intro q
    have := skp_out (P := isK T L 2) (fun i h => isK_lt h) 1000 p (by omega)
    rw [q] at this
    exact this
  · intro q
    exact skp_uniq (by omega) (fun x a b => by
      have := hin (x - p) (by omega)
      rw [show p + (x - p) = x by omega] at this
      exact this) q (by omega)
/-- the class sees the word -/
def wd (T : FS) (L p w : Nat) : Bool := am T L p (sW w) && !isA (byt T L (p + (sW w).length))
theorem c_word (hF : 5000 ≤ F) (hB : BT β T L) {p w : Nat} (hw : w < 9) (hp : p ≤ L) (ht : TK T L p ρ) : mX1_wordIs F β τ ρ w = some (b01 (wd T L p w)) := by
  have hL := hB.1
  obtain ⟨w1, w2, w3, w4⟩ := sW_ok w hw
  have hte := te_le (T := T) hL hp
  have htg := te_ge (T := T) (L := L) (p := p)
  unfold mX1_wordIs
  rw [ht.2.1, ht.2.2.1, ht.1, nI_d htg]
  have hc : (if kd T L p = (2 : Int32) then (if nI (te T L p - p) = (sLen w) then some false else some true) else some true) = some (!(decide (kd T L p = 2) && decide (te T L p - p = (sW w).length))) := by
    unfold sLen
    by_cases q : kd T L p = 2
    · rw [if_pos q]
      by_cases q2 : te T L p - p = (sW w).length
      · rw [if_pos (by rw [q2])]; simp [q, q2]
      · rw [if_neg (fun q3 => q2 ((nI_i (by omega) (by omega)).mp q3))]; simp [q2]
    · rw [if_neg q]; simp [q]
  rw [hc, ob1_e]
  by_cases hg : kd T L p = 2 ∧ te T L p - p = (sW w).length
  · have hne := kd_lt (T := T) (L := L) (p := p) (by rw [hg.1]; decide)
    have hl := loop_ex (f := fun st : Int32 => mX1_wordIs_L28 F w β τ ρ st) (P := fun i => !decide (byt T L (p + i) = (sW w).getD i 0)) (r := (0 : Int32)) (lo := 0) (b := (sW w).length) (fun i _ hi => by
      show mX1_wordIs_L28 F w β τ ρ (nI i) = _
      have hpi : p + i < L := by omega
      have hby : byt T L (p + i) = T (p + i) := by unfold byt; rw [if_neg (by omega)]
      have hrg := isA_rg (w4 i hi)
      unfold mX1_wordIs_L28
      have hch : sChr w (nI i) = some ((sW w).getD i 0) := by
        unfold sChr
        rw [nI_clamp (by omega), if_neg]
        rintro (q | q)
        · exact nI_nl0 (by omega) q
        · omega
      rw [show sLen w = nI (sW w).length from rfl, if_neg (nle (by omega) (by omega) hi), ht.1, nI_a, rd_at (by omega) (by decide), ob1_e, hch, ob1_e, hby]
      have := (hB.2 (p + i) hpi).eq hrg.1 hrg.2
      by_cases q : T (p + i) = (sW w).getD i 0
      · rw [if_pos (this.mpr q), nI_s]; simp [q]
      · rw [if_neg (fun q2 => q (this.mp q2))]
        have : (!decide (T (p + i) = (sW w).getD i 0)) = true := by simp only [q, decide_false, Bool.not_false]
        rw [this]; rfl) (by
      show mX1_wordIs_L28 F w β τ ρ (nI (sW w).length) = _
      unfold mX1_wordIs_L28
      rw [show sLen w = nI (sW w).length from rfl, if_pos (Int32.le_refl _)]) (sW w).length 0 F (by omega) (by omega) (by omega)
    rw [show (!(decide (kd T L p = 2) && decide (te T L p - p = (sW w).length))) = false by simp [hg.1, hg.2], cnd_F, i0, hl, ob1_e]
    have hex : exB (fun i => !decide (byt T L (p + i) = (sW w).getD i 0)) 0 (sW w).length = !am T L p (sW w) := by
      cases ha : am T L p (sW w) with
      | true =>
        unfold am at ha
        rw [decide_eq_true_eq] at ha
        rw [Bool.not_true, exB_F]
        intro s _ hs
        show (!decide (byt T L (p + s) = (sW w).getD s 0)) = false
        rw [ha s (by omega)]; simp
      | false =>
        unfold am at ha
        rw [decide_eq_false_iff_not] at ha
        rw [Bool.not_false]
        cases he : exB (fun i => !decide (byt T L (p + i) = (sW w).getD i 0)) 0 (sW w).length with
        | true => rfl
        | false =>
          exfalso
          refine ha (fun i hi => ?_)
          have := (exB_F _ _ _).mp he i (Nat.zero_le _) (by omega)
          have h2 : (!decide (byt T L (p + i) = (sW w).getD i 0)) = false := this
          simpa using h2
    rw [hex]
    cases ha : am T L p (sW w) with
    | true =>
      have := (am_te hw ha hL hp).mp (by omega)
      rw [if_neg (by simp), el1_R]
      unfold wd
      rw [ha, this]; rfl
    | false =>
      rw [if_pos (by simp), el1_L]
      unfold wd
      rw [ha]; rfl
  · have hb : (!(decide (kd T L p = 2) && decide (te T L p - p = (sW w).length))) = true := by
      by_cases q1 : kd T L p = 2
      · have q2 : ¬ te T L p - p = (sW w).length := fun q => hg ⟨q1, q⟩
        simp [q2]
      · simp [q1]
    rw [hb, cnd_T]
    have : wd T L p w = false := by
      unfold wd
      cases ha : am T L p (sW w) with
      | false => rfl
      | true =>
        cases hn : isA (byt T L (p + (sW w).length)) with
        | true => rfl
        | false =>
          exact absurd ⟨(am_kd hw ha).1, by have := (am_te hw ha hL hp).mpr hn; omega⟩ hg
    rw [this]; rfl
def mtP (T : FS) (L p : Nat) (l : List Int32) (i : Nat) : Bool := decide (i < l.length) && decide (byt T L (p + i) = l.getD i 0)
theorem mtP_lt {p i : Nat} {l : List Int32} (h : mtP T L p l i = true) : i < l.length := by
  unfold mtP at h
  rw [Bool.and_eq_true, decide_eq_true_eq] at h
  exact h.1
theorem m_word (hF : 5000 ≤ F) (hL : L ≤ 700) (hg : μ 5 0 = 0) (h3 : μ 3 0 = nI L) (hT : μ 1 = T) {c w : Nat} (hw : w < 9) (hc : c ≤ L) (h4 : μ 4 0 = nI c) : ∃ μ', mX4_takeWord F μ (w + 9) = some (b01 (wd T L (sk T L c) w), μ') ∧ μ' 4 0 = nI (if wd T L (sk T L c) w then te T L (sk T L c) else sk T L c) ∧ ∀ q, q ≠ 4 → μ' q = μ q := by
  obtain ⟨w1, w2, w3, w4⟩ := sW_ok w hw
  have hsl := sk_le (T := T) hc
  obtain ⟨r, l1, l2, l3, l4⟩ := m_nextB (F := F) hF h3 hT hL hc h4
  obtain ⟨r1, μ5⟩ := r
  have l2 : r1 = byt T L (sk T L c) := l2
  have l3 : μ5 4 0 = nI (sk T L c) := l3
  have l4 : ∀ q, q ≠ 4 → μ5 q = μ q := l4
  generalize sk T L c = p at l2 l3 hsl ⊢
  have hby : ∀ i, i < 100000 → mX4_byteAt F μ5 (nI i) = some (byt T L i) := fun i hi => m_byte (by rw [l4 3 (by decide)]; exact h3) (by rw [l4 1 (by decide)]; exact hT) hL hi
  have hsL : sLen (w + 9) = nI (sW w).length := by unfold sLen; rw [w1]
  have hL16 : ∀ i, i ≤ (sW w).length → mX4_takeWord_L16 F (w + 9) μ5 (nI i) = some (if mtP T L p (sW w) i then .inr (nI (i + 1)) else .inl (nI i)) := fun i hi => by
    unfold mX4_takeWord_L16 mtP
    rw [hsL]
    by_cases q : i < (sW w).length
    · have hch : sChr (w + 9) (nI i) = some ((sW w).getD i 0) := by
        unfold sChr
        rw [nI_clamp (by omega), w1, if_neg]
        rintro (q | q)
        · exact nI_nl0 (by omega) q
        · omega
      rw [if_neg (nle (by omega) (by omega) q), l3, nI_a, hby _ (by omega), ob1_e, hch, ob1_e]
      by_cases q2 : byt T L (p + i) = (sW w).getD i 0
      · rw [if_pos q2, ob1_e, cnd_T, nI_s]
        simp only [q, q2, decide_true, Bool.and_self, if_true]
      · rw [if_neg q2, ob1_e, cnd_F]
        simp only [q, q2, decide_true, decide_false, Bool.and_false, Bool.false_eq_true, if_false]
    · rw [if_pos ((nI_leI (by omega) (by omega)).mpr (by omega)), ob1_e, cnd_F]
      simp only [q, decide_false, Bool.false_and, Bool.false_eq_true, if_false]
  obtain ⟨v, hv1, v9, hv2, hv3⟩ := ok_scan (f := fun st => mX4_takeWord_L16 F (w + 9) μ5 st) (mtP T L p (sW w)) (fun i a => a = nI i ∧ i ≤ (sW w).length) (Q := fun b => ∃ v : Nat, b = nI v ∧ v = skp (mtP T L p (sW w)) 1000 0) (fun i a hR hP => by
    obtain ⟨rfl, hi⟩ := hR
    have hlt : i < (sW w).length := mtP_lt hP
    rw [hL16 i hi, if_pos hP]
    exact ok_some ⟨_, rfl, rfl, hlt⟩) 1000 0 F (nI 0) (by omega) ⟨rfl, Nat.zero_le _⟩ (skp_out (L := (sW w).length) (fun i h => mtP_lt h) 1000 0 (by omega)) (fun a hR => by
    obtain ⟨rfl, hi⟩ := hR
    rw [hL16 _ hi, if_neg (by rw [skp_out (L := (sW w).length) (fun i h => mtP_lt h) 1000 0 (by omega)]; simp)]
    exact ok_some ⟨_, rfl, _, rfl, rfl⟩)
  unfold mX4_takeWord
  rw [m_goodT hg, ob1_e, if_neg (show ¬ (1 : Int32) = 0 by decide), l1, ob2_e, show loopM (fun st => mX4_takeWord_L16 F (w + 9) μ5 st) F (0 : Int32) = some v from hv1, ob1_e, hv2, hsL]
  have hvle : v9 ≤ (sW w).length := by
    rw [hv3]
    exact skp_le (L := (sW w).length) (fun i h => mtP_lt h) 1000 0 (Nat.zero_le _)
  have hvin : ∀ x, x < v9 → byt T L (p + x) = (sW w).getD x 0 := fun x hx => by
    rw [hv3] at hx
    have := skp_in (mtP T L p (sW w)) 1000 0 x (Nat.zero_le _) hx
    unfold mtP at this
    rw [Bool.and_eq_true, decide_eq_true_eq, decide_eq_true_eq] at this
    exact this.2
  cases ha : am T L p (sW w) with
  | true =>
    have hve : v9 = (sW w).length := by
      rw [hv3]
      unfold am at ha
      rw [decide_eq_true_eq] at ha
      refine skp_uniq (Nat.zero_le _) (fun x _ hx => ?_) ?_ (by omega)
      · unfold mtP
        rw [ha x hx]; simp [hx]
      · unfold mtP; simp
    rw [hve, if_neg Int32.lt_irrefl, l3, nI_a, hby _ (by omega), ob1_e, m_let, ob1_e]
    cases hn : isA (byt T L (p + (sW w).length)) with
    | true =>
      have hwd : wd T L p w = false := by unfold wd; rw [ha, hn]; rfl
      rw [if_neg (show ¬ b01 true = 0 by decide), ob1_e, cnd_T, hwd]
      exact ⟨μ5, rfl, l3, l4⟩
    | false =>
      have hwd : wd T L p w = true := by unfold wd; rw [ha, hn]; rfl
      rw [if_pos (show b01 false = 0 by decide), ob1_e, cnd_F, ob1_e, hwd]
      exact ⟨_, rfl, by rw [pf_at, if_pos rfl, if_pos rfl, (am_te hw ha hL hsl).mpr hn], fun q hq => by funext x; rw [pf_n _ _ _ _ _ hq, l4 q hq]⟩
  | false =>
    have hlt : v9 < (sW w).length := by
      rcases (show v9 < (sW w).length ∨ v9 = (sW w).length by omega) with q | q
      · exact q
      · exfalso
        unfold am at ha
        rw [decide_eq_false_iff_not] at ha
        exact ha (fun i hi => hvin i (by omega))
    have hwd : wd T L p w = false := by unfold wd; rw [ha]; rfl
    rw [if_pos ((nI_ltI (by omega) (by omega)).mpr hlt), ob1_e, cnd_T, hwd]
    exact ⟨μ5, rfl, l3, l4⟩
theorem m_wordF (hg : μ 5 0 ≠ 0) {w : Nat} : mX4_takeWord F μ w = some (0, μ) := by
  unfold mX4_takeWord
  rw [m_goodF hg, ob1_e, if_pos rfl]
/-- both at a word -/
theorem PR.word (hF : 5000 ≤ F) (hB : BT β T L) (h : PR T L ν X b τ ρ μ) {w : Nat} (hw : w < 9) : ∃ (x : Bool), mX1_wordIs F β τ ρ w = some (b01 x) ∧ (μ 5 0 = 0 → ∃ μ', mX4_takeWord F μ (w + 9) = some (b01 x, μ') ∧ (∀ q, q ≠ 4 → μ' q = μ q) ∧ (x = false → PR T L ν X b τ ρ μ' ∧ μ' 4 0 = ρ 8 0) ∧ (x = true → ok (mX1_nextToken F β τ ρ) (fun ρ' => PR T L ν X b τ ρ' μ' ∧ ∀ q, q < 7 → ρ' q = ρ q)) ∧ (x = true → ∃ p, p ≤ L ∧ TK T L p ρ ∧ b ≤ p ∧ μ' 4 0 = nI (te T L p))) := by
  have hL := hB.1
  obtain ⟨⟨⟨c1, c2, c3, c4⟩, hs, ⟨p0, hp1, hp2⟩, cc, hcc, hc4⟩, h1, h2, h3⟩ := h
  by_cases hg : μ 5 0 = 0
  · obtain ⟨⟨p, c', p1, p2, p3, p4, p5, p6⟩, hX⟩ := h3 hg
    refine ⟨wd T L p w, c_word hF hB hw p1 p2, fun _ => ?_⟩
    obtain ⟨μ', n1, n2, n3⟩ := m_word (F := F) (w := w) hF hL hg c2 c3 hw p3 p4
    rw [p5] at n1 n2
    refine ⟨μ', n1, n3, fun hx => ?_, fun hx => ?_, fun hx => ⟨p, p1, p2, p6, by rw [n2, hx]; rfl⟩⟩
    · rw [hx] at n2
      have n2 : μ' 4 0 = nI p := n2
      exact ⟨⟨⟨⟨c1, by rw [n3 3 (by decide)]; exact c2, by rw [n3 1 (by decide)]; exact c3, fun q a b c d e f => by rw [n3 q a, c4 q a b c d e f]⟩, hs, ⟨p0, hp1, hp2⟩, p, p1, n2⟩, by rw [n3 5 (by decide)]; exact h1, by rw [n3 6 (by decide)]; exact h2, fun _ => ⟨⟨p, p, p1, p2, p1, n2, by rw [← p5, sk_sk hL], p6⟩, by rw [n3 9 (by decide), n3 14 (by decide)]; exact hX⟩⟩, n2.trans p2.1.symm⟩
    · rw [hx] at n2
      have n2 : μ' 4 0 = nI (te T L p) := n2
      have hte := te_le (T := T) hL p1
      obtain ⟨ρ', m1, m2, m3, m4⟩ := PR.adv (F := F) (τ := τ) hF hB c1 p1 p2
      rw [m1]
      refine ok_some ⟨⟨⟨⟨by rw [m4 4 (by decide)]; exact c1, by rw [n3 3 (by decide)]; exact c2, by rw [n3 1 (by decide)]; exact c3, fun q a b c d e f => by rw [n3 q a, c4 q a b c d e f]⟩, hs, ⟨_, m3, m2⟩, _, hte, n2⟩, by rw [m4 1 (by decide), n3 5 (by decide)]; exact h1, by rw [m4 2 (by decide), n3 6 (by decide)]; exact h2, fun _ => ⟨⟨_, _, m3, m2, hte, n2, rfl, ?_⟩, ?_⟩⟩, m4⟩
      · have := sk_ge (T := T) (L := L) (te T L p)
        have := te_ge (T := T) (L := L) (p := p)
        omega
      · rw [m4 5 (by decide), m4 6 (by decide), n3 9 (by decide), n3 14 (by decide)]; exact hX
  · exact ⟨_, c_word hF hB hw hp1 hp2, fun q => absurd q hg⟩
theorem PR.skips (hF : 5000 ≤ F) (hB : BT β T L) (h : PR T L ν X b τ ρ μ) {w : Nat} (hw : w < 9) : ∃ r ρ' r' μ', mX1_skipsWord F β τ ρ w = some (r, ρ') ∧ mX4_takeWord F μ (w + 9) = some (r', μ') ∧ PR T L ν X b τ ρ' μ' ∧ μ' 5 = μ 5 ∧ (μ 5 0 = 0 → r = r' ∧ (r = 0 → ρ' = ρ ∧ μ' 4 0 = ρ 8 0)) ∧ (μ 5 0 ≠ 0 → r' = 0) := by
  obtain ⟨x, h1, h2⟩ := h.word (F := F) hF hB hw
  unfold mX1_skipsWord
  rw [h1, ob1_e]
  by_cases hg : μ 5 0 = 0
  · obtain ⟨μ', n1, n2, n3, n4, -⟩ := h2 hg
    cases x with
    | false => exact ⟨0, ρ, 0, μ', rfl, n1, (n3 rfl).1, n2 5 (by decide), fun _ => ⟨rfl, fun _ => ⟨rfl, (n3 rfl).2⟩⟩, fun q => absurd hg q⟩
    | true =>
      obtain ⟨ρ', m1, m2, m3⟩ := n4 rfl
      rw [if_neg (show ¬ b01 true = 0 by decide), m1, ob1_e]
      exact ⟨1, ρ', 1, μ', rfl, n1, m2, n2 5 (by decide), fun _ => ⟨rfl, fun q => absurd q (by decide)⟩, fun q => absurd hg q⟩
  · obtain ⟨⟨⟨c1, c2, c3, c4⟩, hs, ⟨p0, hp1, hp2⟩, cc, hcc, hc4⟩, k1, k2, k3⟩ := h
    have hpr : PR T L ν X b τ ρ μ := ⟨⟨⟨c1, c2, c3, c4⟩, hs, ⟨p0, hp1, hp2⟩, cc, hcc, hc4⟩, k1, k2, k3⟩
    cases x with
    | false => exact ⟨0, ρ, 0, μ, rfl, m_wordF hg, hpr, rfl, fun q => absurd q hg, fun _ => rfl⟩
    | true =>
      obtain ⟨ρ', m1, m2, m3, m4⟩ := PR.adv (F := F) (τ := τ) hF hB c1 hp1 hp2
      rw [if_neg (show ¬ b01 true = 0 by decide), m1, ob1_e]
      exact ⟨1, ρ', 0, μ, rfl, m_wordF hg, ⟨⟨⟨by rw [m4 4 (by decide)]; exact c1, c2, c3, c4⟩, hs, ⟨_, m3, m2⟩, cc, hcc, hc4⟩, by rw [m4 1 (by decide)]; exact k1, by rw [m4 2 (by decide)]; exact k2, fun q => absurd q hg⟩, rfl, fun q => absurd q hg, fun _ => rfl⟩
end WN
