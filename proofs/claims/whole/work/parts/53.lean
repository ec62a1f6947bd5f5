/-! pure: the setup that is read against the row that is laid -/
def rowS (τ : MS) (d : FS) (s : Nat) : Prop := d (91 + 9 * s) = τ 11 s ∧ d (92 + 9 * s) = τ 12 s ∧ d (93 + 9 * s) = τ 13 s ∧ d (94 + 9 * s) = τ 14 s ∧ d (95 + 9 * s) = 0 ∧ d (96 + 9 * s) = τ 15 s ∧ d (97 + 9 * s) = τ 16 s ∧ d (98 + 9 * s) = τ 16 s
def stOK (τ : MS) (s : Nat) : Prop := τ 12 s = nI (Kn τ s) ∧ Kn τ s < Sn τ ∧ bd (τ 13 s) 1 999 ∧ bd (τ 14 s) 1 99 ∧ bd (τ 15 s) 0 9
def rowK (τ : MS) (d : FS) (k : Nat) : Prop := d (7 + 2 * k) = τ 3 k ∧ d (8 + 2 * k) = τ 4 k ∧ bd (τ 3 k) 0 9999
def SB (τ : MS) (d : FS) : Prop := (τ 2 0 = nI (Sn τ) ∧ Sn τ ≤ 6) ∧ (τ 10 0 = nI (Nn τ) ∧ Nn τ ≤ 40) ∧ d 0 = 0 ∧ d 6 = 0 ∧ d 1 = τ 2 0 ∧ d 3 = τ 10 0 ∧ d 4 = τ 0 0 ∧ d 5 = τ 1 0 ∧ bd (τ 1 0) 1 9 ∧ (∀ k, k < Sn τ → rowK τ d k) ∧ ∀ s, s < Nn τ → rowS τ d s ∧ stOK τ s
def jOK (τ : MS) (j : Nat) : Prop := τ 8 j = nI (An τ j) ∧ τ 9 j = nI (En τ j) ∧ An τ j < En τ j ∧ En τ j ≤ Nn τ ∧ τ 7 j = nI (Cn τ j) ∧ 1 ≤ Cn τ j ∧ Cn τ j ≤ 5 ∧ (∀ s, An τ j ≤ s → s < En τ j → τ 11 s = nI (Gn τ s) ∧ Gn τ s < Cn τ j) ∧ ∀ s t, An τ j ≤ s → s ≤ t → t < En τ j → Gn τ s ≤ Gn τ t
def rowJ (τ : MS) (d : FS) (j : Nat) : Prop := d (19 + 9 * j) = 0 ∧ d (20 + 9 * j) = τ 6 j ∧ d (21 + 9 * j) = τ 7 j ∧ d (22 + 9 * j) = nI (En τ j - An τ j) ∧ d (23 + 9 * j) = -1 ∧ d (24 + 9 * j) = -1 ∧ d (25 + 9 * j) = nI (An τ j)
/-- where the journey before j ends -/
def prevE (τ : MS) (j : Nat) : Nat := if j = 0 then 0 else En τ (j - 1)
def Jfin (τ : MS) (d : FS) (J : Nat) : Prop := ∀ j, j < J → jOK τ j ∧ rowJ τ d j ∧ An τ j = prevE τ j
def zer (d : FS) (J : Nat) : Prop := ∀ j, J ≤ j → j < 8 → d (22 + 9 * j) = 0
def flg (f5 f6 o : Int32) : Prop := ∃ a b : Nat, a ≤ 1 ∧ b ≤ 1 ∧ f5 = nI a ∧ f6 = nI b ∧ o = nI (a + 2 * b)
def X0 : XT := fun τ f5 f6 d o => SB τ d ∧ flg f5 f6 o ∧ ∃ J, τ 5 0 = nI J ∧ J ≤ 8 ∧ d 2 = nI J ∧ Jfin τ d J ∧ zer d J ∧ prevE τ J = Nn τ
/-- journey J is being read, its last step is of stage g -/
def X1 (J g : Nat) : XT := fun τ f5 f6 d o => SB τ d ∧ flg f5 f6 o ∧ J < 8 ∧ τ 5 0 = nI (J + 1) ∧ d 2 = nI J ∧ Jfin τ d J ∧ zer d (J + 1) ∧ An τ J = prevE τ J ∧ τ 8 J = nI (An τ J) ∧ An τ J ≤ Nn τ ∧ τ 9 J = nI (Nn τ) ∧ d (19 + 9 * J) = 0 ∧ d (20 + 9 * J) = τ 6 J ∧ d (22 + 9 * J) = nI (Nn τ - An τ J) ∧ d (23 + 9 * J) = -1 ∧ d (24 + 9 * J) = -1 ∧ d (25 + 9 * J) = nI (An τ J) ∧ g ≤ 4 ∧ (∀ s, An τ J ≤ s → s < Nn τ → τ 11 s = nI (Gn τ s) ∧ Gn τ s ≤ g) ∧ (∀ s t, An τ J ≤ s → s ≤ t → t < Nn τ → Gn τ s ≤ Gn τ t) ∧ (An τ J < Nn τ → τ 7 J = nI (g + 1))
theorem rowS.same {τ τ' : MS} {d d' : FS} {s : Nat} (h : rowS τ d s) (h1 : ∀ c, 11 ≤ c → c ≤ 16 → τ' c s = τ c s) (hd : ∀ x, 91 + 9 * s ≤ x → x < 99 + 9 * s → d' x = d x) : rowS τ' d' s := by
  unfold rowS
  rw [hd _ (by omega) (by omega), hd _ (by omega) (by omega), hd _ (by omega) (by omega), hd _ (by omega) (by omega), hd _ (by omega) (by omega), hd _ (by omega) (by omega), hd _ (by omega) (by omega), hd _ (by omega) (by omega), h1 11 (by decide) (by decide), h1 12 (by decide) (by decide), h1 13 (by decide) (by decide), h1 14 (by decide) (by decide), h1 15 (by decide) (by decide), h1 16 (by decide) (by decide)]
  exact h
theorem stOK.same {τ τ' : MS} {s : Nat} (h : stOK τ s) (h1 : ∀ c, 11 ≤ c → c ≤ 16 → τ' c s = τ c s) (hS : Sn τ ≤ Sn τ') : stOK τ' s := by
  obtain ⟨a, b, c, d, e⟩ := h
  have hk : Kn τ' s = Kn τ s := by unfold Kn; rw [h1 12 (by decide) (by decide)]
  unfold stOK
  rw [hk, h1 12 (by decide) (by decide), h1 13 (by decide) (by decide), h1 14 (by decide) (by decide), h1 15 (by decide) (by decide)]
  exact ⟨a, by omega, c, d, e⟩
theorem rowK.same {τ τ' : MS} {d d' : FS} {k : Nat} (h : rowK τ d k) (h1 : τ' 3 k = τ 3 k) (h2 : τ' 4 k = τ 4 k) (hd : ∀ x, 7 + 2 * k ≤ x → x < 9 + 2 * k → d' x = d x) : rowK τ' d' k := by
  unfold rowK
  rw [hd _ (by omega) (by omega), hd _ (by omega) (by omega), h1, h2]
  exact h
theorem jOK.same {τ τ' : MS} {j : Nat} (h : jOK τ j) (h1 : ∀ c, 7 ≤ c → c ≤ 9 → τ' c j = τ c j) (hs : ∀ s, s < Nn τ → τ' 11 s = τ 11 s) (hN : Nn τ ≤ Nn τ') : jOK τ' j := by
  obtain ⟨a, b, c, d, e, f, g, i, k⟩ := h
  have hA : An τ' j = An τ j := by unfold An; rw [h1 8 (by decide) (by decide)]
  have hE : En τ' j = En τ j := by unfold En; rw [h1 9 (by decide) (by decide)]
  have hC : Cn τ' j = Cn τ j := by unfold Cn; rw [h1 7 (by decide) (by decide)]
  have hG : ∀ s, s < Nn τ → Gn τ' s = Gn τ s := fun s hs' => by unfold Gn; rw [hs s hs']
  unfold jOK
  rw [hA, hE, hC, h1 7 (by decide) (by decide), h1 8 (by decide) (by decide), h1 9 (by decide) (by decide)]
  refine ⟨a, b, c, by omega, e, f, g, fun s s1 s2 => ?_, fun s t s1 s2 s3 => ?_⟩
  · rw [hG s (by omega), hs s (by omega)]; exact i s s1 s2
  · rw [hG s (by omega), hG t (by omega)]; exact k s t s1 s2 s3
theorem rowJ.same {τ τ' : MS} {d d' : FS} {j : Nat} (h : rowJ τ d j) (h1 : ∀ c, 6 ≤ c → c ≤ 9 → τ' c j = τ c j) (hd : ∀ x, 19 + 9 * j ≤ x → x < 26 + 9 * j → d' x = d x) : rowJ τ' d' j := by
  have hA : An τ' j = An τ j := by unfold An; rw [h1 8 (by decide) (by decide)]
  have hE : En τ' j = En τ j := by unfold En; rw [h1 9 (by decide) (by decide)]
  unfold rowJ
  rw [hd _ (by omega) (by omega), hd _ (by omega) (by omega), hd _ (by omega) (by omega), hd _ (by omega) (by omega), hd _ (by omega) (by omega), hd _ (by omega) (by omega), hd _ (by omega) (by omega), hA, hE, h1 6 (by decide) (by decide), h1 7 (by decide) (by decide)]
  exact h
theorem Jfin.same {τ τ' : MS} {d d' : FS} {J : Nat} (h : Jfin τ d J) (h1 : ∀ c j, j < J → 6 ≤ c → c ≤ 9 → τ' c j = τ c j) (hs : ∀ s, s < Nn τ → τ' 11 s = τ 11 s) (hN : Nn τ ≤ Nn τ') (hd : ∀ j x, j < J → 19 + 9 * j ≤ x → x < 26 + 9 * j → d' x = d x) : Jfin τ' d' J := fun j hj => by
  obtain ⟨a, b, c⟩ := h j hj
  refine ⟨a.same (fun c c1 c2 => h1 c j hj (by omega) c2) hs hN, b.same (fun c c1 c2 => h1 c j hj c1 c2) (fun x x1 x2 => hd j x hj x1 x2), ?_⟩
  have hA : An τ' j = An τ j := by unfold An; rw [h1 8 j hj (by decide) (by decide)]
  rw [hA, c]
  unfold prevE
  split
  · rfl
  · unfold En; rw [h1 9 (j - 1) (by omega) (by decide) (by decide)]
theorem prevE.same {τ τ' : MS} {J : Nat} (h1 : ∀ j, j < J → τ' 9 j = τ 9 j) : prevE τ' J = prevE τ J := by
  unfold prevE
  split
  · rfl
  · unfold En; rw [h1 (J - 1) (by omega)]
theorem n91 (N : Nat) : (91 : Int32) + ((9 : Int32) * nI N) = nI (91 + 9 * N) := by
  rw [show (91 : Int32) = nI 91 from rfl, show (9 : Int32) = nI 9 from rfl, nI_m, nI_a]
theorem n19 (N : Nat) : (19 : Int32) + ((9 : Int32) * nI N) = nI (19 + 9 * N) := by
  rw [show (19 : Int32) = nI 19 from rfl, show (9 : Int32) = nI 9 from rfl, nI_m, nI_a]
theorem v9S0 {μ : MS} {s : Nat} {v : Int32} (hs : s < 40) : wra μ 9 451 (nI (91 + 9 * s) + (0 : Int32)) v = some (u2 μ 9 (91 + 9 * s) v) := wrn (nS0 s) (by omega) (by decide)
theorem v9J0 {μ : MS} {j : Nat} {v : Int32} (hj : j < 8) : wra μ 9 451 (nI (19 + 9 * j) + (0 : Int32)) v = some (u2 μ 9 (19 + 9 * j) v) := wrn (nJ0 j) (by omega) (by decide)
theorem v9G0 {μ : MS} {v : Int32} : wra μ 9 451 (0 : Int32) v = some (u2 μ 9 0 v) := wrn (x := (0 : Int32)) (i := 0) rfl (by decide) (by decide)
theorem v9S1 {μ : MS} {s : Nat} {v : Int32} (hs : s < 40) : wra μ 9 451 (nI (91 + 9 * s) + (1 : Int32)) v = some (u2 μ 9 (92 + 9 * s) v) := wrn (nS1 s) (by omega) (by decide)
theorem v9J1 {μ : MS} {j : Nat} {v : Int32} (hj : j < 8) : wra μ 9 451 (nI (19 + 9 * j) + (1 : Int32)) v = some (u2 μ 9 (20 + 9 * j) v) := wrn (nJ1 j) (by omega) (by decide)
theorem v9G1 {μ : MS} {v : Int32} : wra μ 9 451 (1 : Int32) v = some (u2 μ 9 1 v) := wrn (x := (1 : Int32)) (i := 1) rfl (by decide) (by decide)
theorem v9S2 {μ : MS} {s : Nat} {v : Int32} (hs : s < 40) : wra μ 9 451 (nI (91 + 9 * s) + (2 : Int32)) v = some (u2 μ 9 (93 + 9 * s) v) := wrn (nS2 s) (by omega) (by decide)
theorem v9J2 {μ : MS} {j : Nat} {v : Int32} (hj : j < 8) : wra μ 9 451 (nI (19 + 9 * j) + (2 : Int32)) v = some (u2 μ 9 (21 + 9 * j) v) := wrn (nJ2 j) (by omega) (by decide)
theorem v9G2 {μ : MS} {v : Int32} : wra μ 9 451 (2 : Int32) v = some (u2 μ 9 2 v) := wrn (x := (2 : Int32)) (i := 2) rfl (by decide) (by decide)
theorem v9S3 {μ : MS} {s : Nat} {v : Int32} (hs : s < 40) : wra μ 9 451 (nI (91 + 9 * s) + (3 : Int32)) v = some (u2 μ 9 (94 + 9 * s) v) := wrn (nS3 s) (by omega) (by decide)
theorem v9J3 {μ : MS} {j : Nat} {v : Int32} (hj : j < 8) : wra μ 9 451 (nI (19 + 9 * j) + (3 : Int32)) v = some (u2 μ 9 (22 + 9 * j) v) := wrn (nJ3 j) (by omega) (by decide)
theorem v9G3 {μ : MS} {v : Int32} : wra μ 9 451 (3 : Int32) v = some (u2 μ 9 3 v) := wrn (x := (3 : Int32)) (i := 3) rfl (by decide) (by decide)
theorem v9S4 {μ : MS} {s : Nat} {v : Int32} (hs : s < 40) : wra μ 9 451 (nI (91 + 9 * s) + (4 : Int32)) v = some (u2 μ 9 (95 + 9 * s) v) := wrn (nS4 s) (by omega) (by decide)
theorem v9J4 {μ : MS} {j : Nat} {v : Int32} (hj : j < 8) : wra μ 9 451 (nI (19 + 9 * j) + (4 : Int32)) v = some (u2 μ 9 (23 + 9 * j) v) := wrn (nJ4 j) (by omega) (by decide)
theorem v9G4 {μ : MS} {v : Int32} : wra μ 9 451 (4 : Int32) v = some (u2 μ 9 4 v) := wrn (x := (4 : Int32)) (i := 4) rfl (by decide) (by decide)
theorem v9S5 {μ : MS} {s : Nat} {v : Int32} (hs : s < 40) : wra μ 9 451 (nI (91 + 9 * s) + (5 : Int32)) v = some (u2 μ 9 (96 + 9 * s) v) := wrn (nS5 s) (by omega) (by decide)
theorem v9J5 {μ : MS} {j : Nat} {v : Int32} (hj : j < 8) : wra μ 9 451 (nI (19 + 9 * j) + (5 : Int32)) v = some (u2 μ 9 (24 + 9 * j) v) := wrn (nJ5 j) (by omega) (by decide)
theorem v9G5 {μ : MS} {v : Int32} : wra μ 9 451 (5 : Int32) v = some (u2 μ 9 5 v) := wrn (x := (5 : Int32)) (i := 5) rfl (by decide) (by decide)
theorem v9S6 {μ : MS} {s : Nat} {v : Int32} (hs : s < 40) : wra μ 9 451 (nI (91 + 9 * s) + (6 : Int32)) v = some (u2 μ 9 (97 + 9 * s) v) := wrn (nS6 s) (by omega) (by decide)
theorem v9J6 {μ : MS} {j : Nat} {v : Int32} (hj : j < 8) : wra μ 9 451 (nI (19 + 9 * j) + (6 : Int32)) v = some (u2 μ 9 (25 + 9 * j) v) := wrn (nJ6 j) (by omega) (by decide)
theorem v9G6 {μ : MS} {v : Int32} : wra μ 9 451 (6 : Int32) v = some (u2 μ 9 6 v) := wrn (x := (6 : Int32)) (i := 6) rfl (by decide) (by decide)
theorem v9S7 {μ : MS} {s : Nat} {v : Int32} (hs : s < 40) : wra μ 9 451 (nI (91 + 9 * s) + (7 : Int32)) v = some (u2 μ 9 (98 + 9 * s) v) := wrn (nS7 s) (by omega) (by decide)
theorem v9J7 {μ : MS} {j : Nat} {v : Int32} (hj : j < 8) : wra μ 9 451 (nI (19 + 9 * j) + (7 : Int32)) v = some (u2 μ 9 (26 + 9 * j) v) := wrn (nJ7 j) (by omega) (by decide)
theorem v9S8 {μ : MS} {s : Nat} {v : Int32} (hs : s < 40) : wra μ 9 451 (nI (91 + 9 * s) + (8 : Int32)) v = some (u2 μ 9 (99 + 9 * s) v) := wrn (nS8 s) (by omega) (by decide)
theorem v9J8 {μ : MS} {j : Nat} {v : Int32} (hj : j < 8) : wra μ 9 451 (nI (19 + 9 * j) + (8 : Int32)) v = some (u2 μ 9 (27 + 9 * j) v) := wrn (nJ8 j) (by omega) (by decide)
theorem v9K0 {μ : MS} {k : Nat} {v : Int32} (hk : k < 6) : wra μ 9 451 (((7 : Int32) + ((2 : Int32) * nI k)) + (0 : Int32)) v = some (u2 μ 9 (7 + 2 * k) v) := wrn (kA0 k) (by omega) (by decide)
theorem v9K1 {μ : MS} {k : Nat} {v : Int32} (hk : k < 6) : wra μ 9 451 (((7 : Int32) + ((2 : Int32) * nI k)) + (1 : Int32)) v = some (u2 μ 9 (8 + 2 * k) v) := wrn (kA1 k) (by omega) (by decide)
/-- one more step of journey a - 1 -/
def adF (τ : MS) (N a : Nat) (i1 i2 i3 i4 i5 i6 : Int32) : MS := u2 (u2 (pf (u2 (u2 (u2 (u2 (u2 (u2 τ 11 N i1) 12 N i2) 13 N i3) 14 N i4) 15 N i5) 16 N i6) 10 (nI (N + 1))) 9 (a - 1) (nI (N + 1))) 7 (a - 1) (i1 + 1)
theorem c_room {F : Nat} {τ : MS} {N : Nat} (h : τ 10 0 = nI N) (hN : N ≤ 40) : mX0_hasRoomForStep F τ = some (b01 (decide (N < 40))) := by
  unfold mX0_hasRoomForStep
  rw [h]
  by_cases q : N < 40
  · rw [if_neg (i32_nle (c := 40) (b := 40) rfl (by omega) (by decide) q), ob1_e]; simp [q, b01]
  · have : N = 40 := by omega
    subst this
    rw [if_pos (by decide), ob1_e]; rfl
theorem c_addStep {F : Nat} {τ : MS} {N a : Nat} {i1 i2 i3 i4 i5 i6 : Int32} (h : τ 10 0 = nI N) (hN : N < 40) (h5 : τ 5 0 = nI a) (ha : a ≤ 8) : mX0_addStep F τ i1 i2 i3 i4 i5 i6 = some (if a = 0 then τ else adF τ N a i1 i2 i3 i4 i5 i6) := by
  unfold mX0_addStep
  rw [c_room h (by omega), ob1_e, show decide (N < 40) = true from decide_eq_true hN, if_neg (show ¬ b01 true = 0 by decide), h5]
  by_cases q : a = 0
  · subst q
    rw [if_pos (by decide), ob1_e, cnd_F, ob1_e, if_pos rfl]
  · rw [if_neg (show ¬ nI a ≤ 0 from nle (a := 0) (by decide) (by omega) (by omega)), ob1_e, cnd_T, if_neg q]
    simp only [h]
    rw [wra_at hN (by decide), ob1_e, u2_n _ _ _ _ 10 0 (by omega), h, wra_at hN (by decide), ob1_e, u2_n _ _ _ _ 10 0 (by omega), u2_n _ _ _ _ 10 0 (by omega), h, wra_at hN (by decide), ob1_e]
    simp only [u2_at, Nat.reduceEqDiff, false_and, if_false, h]
    rw [wra_at hN (by decide), ob1_e]
    simp only [u2_at, Nat.reduceEqDiff, false_and, if_false, h]
    rw [wra_at hN (by decide), ob1_e]
    simp only [u2_at, Nat.reduceEqDiff, false_and, if_false, h]
    rw [wra_at hN (by decide), ob1_e, ob1_e]
    simp only [pf_at, u2_at, Nat.reduceEqDiff, false_and, if_false, if_true, h, h5, nI_s]
    rw [nI_m1 (by omega), wra_at (by omega) (by decide), ob1_e]
    simp only [pf_at, u2_at, Nat.reduceEqDiff, false_and, if_false, if_true, h, h5, nI_s]
    rw [nI_m1 (by omega), wra_at (by omega) (by decide), ob1_e, ob1_e]
    rfl
