/-! pure: a journey is read -/
def cps (f : Nat → FS) : Nat → Nat
  | 0 => 0
  | i + 1 => if nv (f (i + 1) 0) = nv (f i 0) then cps f i + 1 else 0
/-- a journey of the law's: its steps -/
def JrOK (K : Nat) (f : Nat → FS) (M : Nat) : Prop := (∀ x, x < M → UniOK K (f x) ∧ cps f x ≤ 2) ∧ nv (f 0 0) = 0 ∧ (∀ x, x + 1 < M → nv (f (x + 1) 0) = nv (f x 0) ∨ nv (f (x + 1) 0) = nv (f x 0) + 1)
/-- i steps of journey q are read -/
def JI (τb τ : MS) (q A : Nat) (f : Nat → FS) (i : Nat) : Prop := τ 5 0 = nI (q + 1) ∧ τ 10 0 = nI (A + i) ∧ τ 9 q = nI (A + i) ∧ (1 ≤ i → τ 7 q = nI (nv (f (i - 1) 0) + 1)) ∧ (∀ x, x < i → stq τ (A + x) (f x)) ∧ ∀ c x, c ≠ 10 → ¬ (11 ≤ c ∧ c ≤ 16 ∧ A ≤ x) → ¬ ((c = 9 ∨ c = 7) ∧ x = q) → τ c x = τb c x
theorem JI.next {τb τ τ' : MS} {q A i : Nat} {f : Nat → FS} (h : JI τb τ q A f i) (k6 : stq τ' (A + i) (f i)) (k7 : τ' 10 0 = nI (A + i + 1)) (k8 : τ' 9 q = nI (A + i + 1)) (k9 : τ' 7 q = nI (nv (f i 0) + 1)) (k10 : ∀ c x, ¬ (11 ≤ c ∧ c ≤ 16 ∧ x = A + i) → c ≠ 10 → ¬ (c = 9 ∧ x = q) → ¬ (c = 7 ∧ x = q) → τ' c x = τ c x) : JI τb τ' q A f (i + 1) := by
  obtain ⟨h1, h2, h3, h4, h5, h6⟩ := h
  refine ⟨?_, k7, k8, fun _ => k9, fun x hx => ?_, fun c x g1 g2 g3 => ?_⟩
  · rw [k10 5 0 (by omega) (by decide) (by omega) (by omega), h1]
  · by_cases e : x = i
    · subst e; exact k6
    · obtain ⟨a1, a2, a3, a4, a5, a6⟩ := h5 x (by omega)
      refine ⟨?_, ?_, ?_, ?_, ?_, ?_⟩
      · rw [k10 11 _ (by omega) (by decide) (by omega) (by omega), a1]
      · rw [k10 12 _ (by omega) (by decide) (by omega) (by omega), a2]
      · rw [k10 13 _ (by omega) (by decide) (by omega) (by omega), a3]
      · rw [k10 14 _ (by omega) (by decide) (by omega) (by omega), a4]
      · rw [k10 15 _ (by omega) (by decide) (by omega) (by omega), a5]
      · rw [k10 16 _ (by omega) (by decide) (by omega) (by omega), a6]
  · rw [k10 c x (by omega) g1 (by omega) (by omega), h6 c x g1 g2 g3]
section RV
variable {F : Nat} {β : FS} {τ τb ρ : MS} {T s r : List Nat}
theorem r_isK (hT : TX T β) (hF : 5000 ≤ F) {k : Nat} (hk : k < 9) (h : RD T ρ (sN k ++ r)) (hr : kdn r ≠ 2) (j : Nat) (hj : j < 9) : mX1_wordIs F β τ ρ j = some (b01 (decide (k = j))) := by
  rw [r_is hT hF h j, (tok_k hk hr).1, (tok_k hk hr).2.1]
  by_cases e : k = j
  · subst e
    rw [decide_eq_true ⟨rfl, rfl⟩, decide_eq_true rfl]
  · rw [decide_eq_false (fun z => sN_ne ⟨k, hk⟩ ⟨j, hj⟩ (fun y => e (congrArg Fin.val y)) z.2), decide_eq_false e]
theorem r_is59 (hT : TX T β) (hF : 5000 ≤ F) (h : RD T ρ (59 :: r)) (j : Nat) : mX1_wordIs F β τ ρ j = some 0 := by
  rw [r_is hT hF h j, kdn_59, decide_eq_false (fun z => absurd z.1 (by decide))]
  rfl
theorem RD.e1 (h : RD T ρ s) : ρ 1 0 = 0 := by
  obtain ⟨p, _, _, _, _, _, _, h7, _⟩ := h
  exact h7
theorem r_steps (hT : TX T β) (hF : 5000 ≤ F) {K M q A : Nat} {f : Nat → FS} (hJ : JrOK K f M) (hM : M ≤ 9) (h2 : τb 2 0 = nI K) (hA : A + M ≤ 40) (hq : q < 8) : ∀ (n i G : Nat) (τ ρ : MS), i + 1 + n = M → n < G → JI τb τ q A f (i + 1) → RD T ρ (sk (stR f (i + 1) n ++ 59 :: r)) → ∃ τ' ρ', loopM (fun st : Int32 × Int32 × Int32 × MS × MS => mX1_readJourney_L54 F β st.1 st.2.1 st.2.2.1 st.2.2.2.1 st.2.2.2.2) G (nI i, nI (cps f i + 1), nI (nv (f i 0)), τ, ρ) = some (.inr (τ', ρ')) ∧ RD T ρ' (59 :: r) ∧ (ρ' 5 = ρ 5 ∧ ρ' 6 = ρ 6) ∧ JI τb τ' q A f M := by
  obtain ⟨J1, J2, J3⟩ := hJ
  intro n
  induction n with
  | zero =>
    intro i G τ ρ e hG hI h
    obtain ⟨G, rfl⟩ : ∃ m, G = m + 1 := ⟨G - 1, by omega⟩
    rw [show stR f (i + 1) 0 ++ 59 :: r = 59 :: r from rfl, sk_59] at h
    refine ⟨τ, ρ, loopM_l ?_, h, ⟨rfl, rfl⟩, ?_⟩
    · show mX1_readJourney_L54 F β (nI i) (nI (cps f i + 1)) (nI (nv (f i 0))) τ ρ = _
      unfold mX1_readJourney_L54
      rw [if_neg (show ¬ (40 : Int32) ≤ nI i from nle (b := 40) (by omega) (by decide) (by omega)), h.e1, if_pos rfl, r_is59 hT hF h 5, ob1_e, if_pos rfl, r_is59 hT hF h 6, ob1_e, if_pos rfl, ob1_e, cnd_F]
    · rw [← e]; exact hI
  | succ n ih =>
    intro i G τ ρ e hG hI h
    obtain ⟨G, rfl⟩ : ∃ m, G = m + 1 := ⟨G - 1, by omega⟩
    obtain ⟨hu, hc⟩ := J1 (i + 1) (by omega)
    obtain ⟨hu0, hc0⟩ := J1 i (by omega)
    have hI' := hI
    obtain ⟨i1, i2, i3, i4, i5, i6⟩ := hI
    have e2 : τ 2 0 = nI K := by rw [i6 2 0 (by decide) (by omega) (by omega), h2]
    have hS : ∀ r', kdn (32 :: r') ≠ 2 := fun r' => by rw [kdn_32]; decide
    have haft := stR_aft (f := f) (i := i + 1 + 1) (by omega) n r
    have hbd := hu0.2.1
    have hgo : ∀ (k : Nat) (ρ : MS), (k = 5 ∨ k = 6) → (k = 5 ↔ nv (f (i + 1) 0) = nv (f i 0)) → RD T ρ (sN k ++ (32 :: (tBod (f (i + 1)) ++ (stR f (i + 1 + 1) n ++ 59 :: r)))) → ∃ τ' ρ', mX1_readJourney_L54 F β (nI i) (nI (cps f i + 1)) (nI (nv (f i 0))) τ ρ = some (.inr (nI (i + 1), nI (cps f (i + 1) + 1), nI (nv (f (i + 1) 0)), τ', ρ')) ∧ RD T ρ' (sk (stR f (i + 1 + 1) n ++ 59 :: r)) ∧ (ρ' 5 = ρ 5 ∧ ρ' 6 = ρ 6) ∧ JI τb τ' q A f (i + 1 + 1) := by
      intro k ρ hk hkk h
      have hk9 : k < 9 := by omega
      obtain ⟨ρ1, a1, a2, a3, a4⟩ := r_nextK (F := F) (τ := τ) hT hF hk9 h (hS _)
      have hb0 : sk (tBod (f (i + 1)) ++ (stR f (i + 1 + 1) n ++ 59 :: r)) = tBod (f (i + 1)) ++ (stR f (i + 1 + 1) n ++ 59 :: r) := by
        unfold tBod
        rw [List.append_assoc, sk_d (by have := hu.2.2.1; have := hu.2.2.2.1; omega)]
      rw [sk_32, hb0] at a2
      obtain ⟨τ', ρ2, b1, b2, b3, b4, b5, b6, b7, b8⟩ := r_step (F := F) (τ := τ) hT hF hu e2 i2 (by omega) i1 hq haft a2
      have w5 := r_isK (F := F) (τ := τ) hT hF hk9 h (hS _) 5 (by decide)
      have w6 := r_isK (F := F) (τ := τ) hT hF hk9 h (hS _) 6 (by decide)
      refine ⟨τ', ρ2, ?_, b2, ⟨b3.1.trans a3, b3.2.trans a4⟩, hI'.next b4 b5 b6 b7 b8⟩
      have hcps : cps f (i + 1) = if nv (f (i + 1) 0) = nv (f i 0) then cps f i + 1 else 0 := rfl
      have hstage := J3 i (by omega)
      have hf0 : f (i + 1) 0 = nI (nv (f (i + 1) 0)) := hu.1 0 (by decide)
      have hend : ∀ v28 v32 : Int32, v28 = nI (cps f (i + 1) + 1) → v32 = nI (nv (f (i + 1) 0)) → (ob1 (if (3 : Int32) < v28 then some true else (if v32 < (5 : Int32) then some false else some true)) fun t36 => cnd t36 (ob1 (mX1_fail F β τ ρ (-4 : Int32) (ρ 8 0)) fun ρ40 => some (.inl (.inl (τ, ρ40)))) (ob1 (mX1_nextToken F β τ ρ) fun ρ41 => ob2 (mX1_readStep F β τ ρ41 v32) fun τ42 ρ43 => some (.inr ((nI i + (1 : Int32)), v28, v32, τ42, ρ43)))) = (some (.inr (nI (i + 1), nI (cps f (i + 1) + 1), nI (nv (f (i + 1) 0)), τ', ρ2)) : Option (((MS × MS) ⊕ (MS × MS)) ⊕ (Int32 × Int32 × Int32 × MS × MS))) := by
        intro v28 v32 e28 e32
        subst e28 e32
        have hub := hu.2.1
        rw [if_neg (show ¬ (3 : Int32) < nI (cps f (i + 1) + 1) from fun z => by have := (nI_lt2 (a := 3) (by decide) (by omega)).mp z; omega), if_pos (show nI (nv (f (i + 1) 0)) < (5 : Int32) from (nI_lt2 (b := 5) (by omega) (by decide)).mpr (by omega)), ob1_e, cnd_F, a1, ob1_e, ← hf0, b1, ob2_e, nI_s]
      unfold mX1_readJourney_L54
      rw [if_neg (show ¬ (40 : Int32) ≤ nI i from nle (b := 40) (by omega) (by decide) (by omega)), h.e1, if_pos rfl, w5, ob1_e]
      rcases hk with rfl | rfl
      · rw [if_neg (by decide), ob1_e, cnd_T, ob1_e, if_neg (by decide), ob1_e, if_neg (by decide), ob1_e]
        have q1 := hkk.mp rfl
        refine hend _ _ ?_ ?_
        · rw [hcps, if_pos q1, nI_s]
        · rw [q1]
      · rw [if_pos (by decide), w6, ob1_e, if_neg (by decide), ob1_e, cnd_T, ob1_e, if_pos (by decide), ob1_e, if_pos (by decide), ob1_e]
        have q1 : ¬ nv (f (i + 1) 0) = nv (f i 0) := fun z => absurd (hkk.mpr z) (by decide)
        refine hend _ _ ?_ ?_
        · rw [hcps, if_neg q1]; rfl
        · rw [nI_s, (show nv (f (i + 1) 0) = nv (f i 0) + 1 by omega)]
    have hfin : ∀ τ1 ρ1, mX1_readJourney_L54 F β (nI i) (nI (cps f i + 1)) (nI (nv (f i 0))) τ ρ = some (.inr (nI (i + 1), nI (cps f (i + 1) + 1), nI (nv (f (i + 1) 0)), τ1, ρ1)) → RD T ρ1 (sk (stR f (i + 1 + 1) n ++ 59 :: r)) → (ρ1 5 = ρ 5 ∧ ρ1 6 = ρ 6) → JI τb τ1 q A f (i + 1 + 1) → ∃ τ' ρ', loopM (fun st : Int32 × Int32 × Int32 × MS × MS => mX1_readJourney_L54 F β st.1 st.2.1 st.2.2.1 st.2.2.2.1 st.2.2.2.2) (G + 1) (nI i, nI (cps f i + 1), nI (nv (f i 0)), τ, ρ) = some (.inr (τ', ρ')) ∧ RD T ρ' (59 :: r) ∧ (ρ' 5 = ρ 5 ∧ ρ' 6 = ρ 6) ∧ JI τb τ' q A f M := by
      intro τ1 ρ1 x1 x2 x3 x4
      obtain ⟨τ', ρ', y1, y2, y3, y4⟩ := ih (i + 1) G τ1 ρ1 (by omega) (by omega) x4 x2
      exact ⟨τ', ρ', (loopM_r x1).trans y1, y2, ⟨y3.1.trans x3.1, y3.2.trans x3.2⟩, y4⟩
    rcases stR_c (f := f) (i := i + 1) (by omega) (n + 1) r with ⟨z, _⟩ | ⟨m, hm, ⟨q1, e1⟩ | ⟨q1, e1⟩⟩
    · exact absurd z (by omega)
    · obtain rfl : n = m := by omega
      rw [e1, sk_32, sk_k (by decide)] at h
      obtain ⟨τ1, ρ1, x1, x2, x3, x4⟩ := hgo 5 ρ (Or.inl rfl) ⟨fun _ => q1, fun _ => rfl⟩ h
      exact hfin τ1 ρ1 x1 x2 x3 x4
    · obtain rfl : n = m := by omega
      rw [e1, sk_k (by decide)] at h
      obtain ⟨τ1, ρ1, x1, x2, x3, x4⟩ := hgo 6 ρ (Or.inr rfl) ⟨fun z => absurd z (by decide), fun z => absurd z q1⟩ h
      exact hfin τ1 ρ1 x1 x2 x3 x4
def tJr (t : Nat) (f : Nat → FS) (n : Nat) : List Nat := sN 13 ++ (dn t ++ (stR f 0 n ++ sN 12))
theorem r_jour (hT : TX T β) (hF : 5000 ≤ F) {K M q A t : Nat} {f : Nat → FS} (hJ : JrOK K f M) (hM1 : 1 ≤ M) (hM : M ≤ 9) (h2 : τ 2 0 = nI K) (h5 : τ 5 0 = nI q) (h10 : τ 10 0 = nI A) (hA : A + M ≤ 40) (hq : q < 8) (ht : t < 1000) (h : RD T ρ (tJr t f M ++ r)) : ∃ τ' ρ', mX1_readJourney F β τ ρ = some (τ', ρ') ∧ RD T ρ' (59 :: r) ∧ (ρ' 5 = ρ 5 ∧ ρ' 6 = ρ 6) ∧ τ' 5 0 = nI (q + 1) ∧ τ' 10 0 = nI (A + M) ∧ τ' 6 q = nI t ∧ τ' 7 q = nI (nv (f (M - 1) 0) + 1) ∧ τ' 8 q = nI A ∧ τ' 9 q = nI (A + M) ∧ (∀ x, x < M → stq τ' (A + x) (f x)) ∧ ∀ c x, c ≠ 5 → c ≠ 10 → ¬ (6 ≤ c ∧ c ≤ 9 ∧ x = q) → ¬ (11 ≤ c ∧ c ≤ 16 ∧ A ≤ x) → τ' c x = τ c x := by
  obtain ⟨m, rfl⟩ : ∃ m, M = m + 1 := ⟨M - 1, by omega⟩
  have hJ' := hJ
  obtain ⟨J1, J2, J3⟩ := hJ
  obtain ⟨hu, -⟩ := J1 0 (by omega)
  have e : tJr t f (m + 1) ++ r = sN 2 ++ (32 :: (dn t ++ (32 :: (tBod (f 0) ++ (stR f 1 m ++ (59 :: r)))))) := by
    unfold tJr
    have e0 : stR f 0 (m + 1) = [32] ++ (tBod (f 0) ++ stR f 1 m) := rfl
    rw [e0, show sN 13 = sN 2 ++ [32] from by decide, show sN 12 = [59] from by decide]
    simp only [List.append_assoc, List.cons_append, List.nil_append]
  rw [e] at h
  obtain ⟨ρ1, a1, a2, a3, a4⟩ := r_nextK (F := F) (τ := τ) hT hF (by decide) h (by rw [kdn_32]; decide)
  rw [sk_32, sk_d ht] at a2
  obtain ⟨ρ2, b1, b2, b3, b4⟩ := r_num2 (F := F) (τ := τ) hT hF a2 (by rw [kdn_32]; decide) ht (lo := 0) (hi := 999) (by omega) (by omega) (by decide)
  have hb0 : sk (tBod (f 0) ++ (stR f 1 m ++ 59 :: r)) = tBod (f 0) ++ (stR f 1 m ++ 59 :: r) := by
    unfold tBod
    rw [List.append_assoc, sk_d (by have := hu.2.2.1; have := hu.2.2.2.1; omega)]
  rw [sk_32, hb0] at b2
  generalize hτb : pf (u2 (u2 (u2 τ 6 q (nI t)) 8 q (nI A)) 9 q (nI A)) 5 (nI (q + 1)) = τb
  have hroom : mX0_hasRoomForJourney F τ = some 1 := by
    unfold mX0_hasRoomForJourney
    rw [h5, if_neg (show ¬ (8 : Int32) ≤ nI q from nle (b := 8) (by omega) (by decide) hq), ob1_e]
  have hadd : mX0_addJourney F τ (nI t) = some τb := by
    unfold mX0_addJourney
    rw [hroom, ob1_e, if_neg (by decide), h5, wra_at hq (by decide), ob1_e, u2_n _ _ _ _ _ _ (by omega), h5, u2_n _ _ _ _ _ _ (by omega), h10, wra_at hq (by decide), ob1_e, u2_n _ _ _ _ _ _ (by omega), u2_n _ _ _ _ _ _ (by omega), h5, u2_n _ _ _ _ _ _ (by omega), u2_n _ _ _ _ _ _ (by omega), h10, wra_at hq (by decide), ob1_e, u2_n _ _ _ _ _ _ (by omega), u2_n _ _ _ _ _ _ (by omega), u2_n _ _ _ _ _ _ (by omega), h5, nI_s, hτb, ob1_e, ob1_e]
  have t5 : τb 5 0 = nI (q + 1) := by rw [← hτb, pf_at, if_pos rfl]
  have tf : ∀ c x, c ≠ 5 → ¬ (6 ≤ c ∧ c ≤ 9 ∧ x = q) → τb c x = τ c x := fun c x g1 g2 => by rw [← hτb, pf_at, if_neg g1, u2_n _ _ _ _ _ _ (by omega), u2_n _ _ _ _ _ _ (by omega), u2_n _ _ _ _ _ _ (by omega)]
  have t10 : τb 10 0 = nI A := by rw [tf 10 0 (by decide) (by omega), h10]
  have t2 : τb 2 0 = nI K := by rw [tf 2 0 (by decide) (by omega), h2]
  have t9 : τb 9 q = nI A := by rw [← hτb, pf_at, if_neg (by decide), u2_s]
  have t8 : τb 8 q = nI A := by rw [← hτb, pf_at, if_neg (by decide), u2_n _ _ _ _ _ _ (by omega), u2_s]
  have t6 : τb 6 q = nI t := by rw [← hτb, pf_at, if_neg (by decide), u2_n _ _ _ _ _ _ (by omega), u2_n _ _ _ _ _ _ (by omega), u2_s]
  have hI0 : JI τb τb q A f 0 := ⟨t5, t10, t9, fun h => absurd h (by decide), fun x hx => absurd hx (Nat.not_lt_zero _), fun _ _ _ _ _ => rfl⟩
  obtain ⟨τ2, ρ3, c1, c2, c3, c4, c5, c6, c7, c8⟩ := r_step (F := F) (τ := τb) hT hF hu t2 t10 (by omega) t5 hq (stR_aft (f := f) (i := 1) (by omega) m r) b2
  have hI1 : JI τb τ2 q A f 1 := hI0.next c4 c5 c6 c7 c8
  obtain ⟨τ3, ρ4, d1, d2, d3, d4⟩ := r_steps (F := F) (K := K) (M := m + 1) hT hF hJ' hM t2 hA hq m 0 F τ2 ρ3 (by omega) (by omega) hI1 c2
  obtain ⟨i1, i2, i3, i4, i5, i6⟩ := d4
  refine ⟨τ3, ρ4, ?_, d2, ⟨d3.1.trans (c3.1.trans (b3.trans a3)), d3.2.trans (c3.2.trans (b4.trans a4))⟩, i1, i2, ?_, i4 (by omega), ?_, i3, i5, fun c x g1 g2 g3 g4 => ?_⟩
  · unfold mX1_readJourney
    have hf0 : f 0 0 = (0 : Int32) := by rw [hu.1 0 (by decide), J2]; rfl
    rw [hroom, ob1_e, if_neg (by decide), a1, ob1_e, show (0 : Int32) = nI 0 from rfl, show (999 : Int32) = nI 999 from rfl, b1, ob2_e, hadd, ob1_e]
    rw [hf0] at c1
    rw [show nI 0 = (0 : Int32) from rfl, c1, ob2_e]
    have d1' : loopM (fun st : Int32 × Int32 × Int32 × MS × MS => mX1_readJourney_L54 F β st.1 st.2.1 st.2.2.1 st.2.2.2.1 st.2.2.2.2) F ((0 : Int32), (1 : Int32), (0 : Int32), τ2, ρ3) = some (.inr (τ3, ρ4)) := by
      rw [J2] at d1
      exact d1
    rw [d1', ob1_e]
    rfl
  · rw [i6 6 q (by decide) (by omega) (by omega), t6]
  · rw [i6 8 q (by decide) (by omega) (by omega), t8]
  · rw [i6 c x g2 g4 (by omega), tf c x g1 g3]
end RV
