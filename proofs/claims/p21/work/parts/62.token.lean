/-! pure: the reader's tokens -/
def kc (x : Nat) : Nat := if x < 48 ∨ 57 < x then (if x < 97 ∨ 122 < x then (if x = 59 ∨ x = 42 ∨ x = 58 then 3 else if x = 32 then 4 else 5) else 2) else 1
def kdn : List Nat → Nat
  | [] => 0
  | x :: _ => kc x
def sk : List Nat → List Nat
  | [] => []
  | x :: s => if kc x = 4 then sk s else x :: s
def tk (s : List Nat) : List Nat := if kdn s = 3 ∨ kdn s = 5 then s.take 1 else s.takeWhile (fun x => kc x == kdn s)
def vl (a : Nat) (ts : List Nat) : Nat := ts.foldl (fun a c => if 10 * a + c - 48 < 1000000 then 10 * a + c - 48 else 1000000) a
def rs (s : List Nat) : List Nat := sk (s.drop (tk s).length)
def TX (T : List Nat) (β : FS) : Prop := (∀ c ∈ T, c < 128) ∧ (∀ k, k < T.length → β k = nI (T.getD k 0)) ∧ T.length ≤ 700
theorem kc_le (x : Nat) : kc x ≤ 5 := by
  unfold kc
  split
  · split
    · split
      · decide
      · split <;> decide
    · decide
  · decide
theorem kdn_le (s : List Nat) : kdn s ≤ 5 := by
  cases s with
  | nil => exact Nat.zero_le _
  | cons x s => exact kc_le x
def kl (x5 : Int32) : Option Int32 := ob1 (if x5 < (48 : Int32) then some false else (if (57 : Int32) < x5 then some false else some true)) fun t6 => cnd t6 (some (1 : Int32)) (ob1 (if x5 < (97 : Int32) then some false else (if (122 : Int32) < x5 then some false else some true)) fun t10 => cnd t10 (some (2 : Int32)) (ob1 (if x5 = (59 : Int32) then some true else (if x5 = (42 : Int32) then some true else (if x5 = (58 : Int32) then some true else some false))) fun t14 => cnd t14 (some (3 : Int32)) (ob1 (if x5 = (32 : Int32) then some (4 : Int32) else some (5 : Int32)) fun v19 => some v19)))
theorem kl_ok : ∀ c : Fin 128, kl (nI c.val) = some (nI (kc c.val)) := by decide +kernel
theorem drop_c {T s : List Nat} {x p : Nat} (h : T.drop p = x :: s) : p < T.length ∧ T.getD p 0 = x ∧ T.drop (p + 1) = s := by
  have hp : p < T.length := by
    by_cases q : p < T.length
    · exact q
    · rw [List.drop_eq_nil_of_le (by omega)] at h
      cases h
  rw [List.drop_eq_getElem_cons hp] at h
  injection h with h1 h2
  refine ⟨hp, ?_, h2⟩
  rw [List.getD_eq_getElem?_getD, List.getElem?_eq_getElem hp]
  exact h1
theorem drop_n {T : List Nat} {p : Nat} (h : T.drop p = []) (hp : p ≤ T.length) : p = T.length := by
  have := List.drop_eq_nil_iff.mp h
  omega
theorem takeW_le {q : Nat → Bool} : ∀ s : List Nat, (s.takeWhile q).length ≤ s.length
  | [] => Nat.le_refl _
  | x :: s => by
    rw [List.takeWhile_cons]
    split
    · exact Nat.succ_le_succ (takeW_le s)
    · exact Nat.zero_le _
theorem takeW_pre {q : Nat → Bool} : ∀ s : List Nat, s.take (s.takeWhile q).length = s.takeWhile q
  | [] => rfl
  | x :: s => by
    rw [List.takeWhile_cons]
    split
    · rw [List.length_cons, List.take_succ_cons, takeW_pre s]
    · rfl
theorem tk_le (s : List Nat) : (tk s).length ≤ s.length := by
  unfold tk
  split
  · rw [List.length_take]; omega
  · exact takeW_le s
theorem tk_pre (s : List Nat) : s.take (tk s).length = tk s := by
  unfold tk
  split
  · cases s with
    | nil => rfl
    | cons x s => rfl
  · exact takeW_pre s
section RT
variable {F : Nat} {β : FS} {τ ρ : MS} {T s : List Nat}
theorem r_kind (hT : TX T β) {p : Nat} (hp : p ≤ T.length) (h4 : ρ 4 0 = nI T.length) : mX1_kindAt F β τ ρ (nI p) = some (nI (kdn (T.drop p))) := by
  obtain ⟨t1, t2, t3⟩ := hT
  unfold mX1_kindAt
  rw [if_neg (show ¬ nI p < (0 : Int32) from fun q => Nat.not_lt_zero _ ((nI_lt2 (b := 0) (by omega) (by decide)).mp q)), h4]
  by_cases q : p < T.length
  · rw [if_pos ((nI_lt2 (by omega) (by omega)).mpr q), ob1_e, cnd_F, rd_at (by omega) (by decide), ob1_e, t2 p q]
    have hm : T.getD p 0 < 128 := by
      rw [List.getD_eq_getElem?_getD, List.getElem?_eq_getElem q]
      exact t1 _ (List.getElem_mem q)
    have := kl_ok ⟨T.getD p 0, hm⟩
    refine Eq.trans this ?_
    rw [List.drop_eq_getElem_cons q]
    show some (nI (kc (T.getD p 0))) = some (nI (kc T[p]))
    rw [List.getD_eq_getElem?_getD, List.getElem?_eq_getElem q]
    rfl
  · rw [if_neg (fun z => q ((nI_lt2 (by omega) (by omega)).mp z)), ob1_e, cnd_T, List.drop_eq_nil_of_le (by omega)]
    rfl
theorem r_skip (hT : TX T β) : ∀ (s : List Nat) (p G : Nat) (ρ : MS), s.length < G → T.drop p = s → p ≤ T.length → ρ 4 0 = nI T.length → ρ 8 0 = nI p → ∃ ρ' p', loopM (fun st => mX1_nextToken_L8 F β τ st) G ρ = some ρ' ∧ T.drop p' = sk s ∧ p' ≤ T.length ∧ ρ' 8 0 = nI p' ∧ ∀ q, q ≠ 8 → ρ' q = ρ q := by
  have hl := hT.2.2
  intro s
  induction s with
  | nil =>
    intro p G ρ h1 h2 h3 h4 h5
    obtain ⟨G, rfl⟩ : ∃ m, G = m + 1 := ⟨G - 1, by omega⟩
    have hp := drop_n h2 h3
    refine ⟨ρ, p, loopM_l ?_, h2, h3, h5, fun _ _ => rfl⟩
    unfold mX1_nextToken_L8
    rw [h4, h5, if_pos ((nI_leI (by omega) (by omega)).mpr (by omega)), ob1_e, cnd_F]
  | cons x s ih =>
    intro p G ρ h1 h2 h3 h4 h5
    obtain ⟨G, rfl⟩ : ∃ m, G = m + 1 := ⟨G - 1, by omega⟩
    obtain ⟨a1, a2, a3⟩ := drop_c h2
    have hk := r_kind (F := F) (τ := τ) hT h3 h4
    rw [h2] at hk
    have hk : mX1_kindAt F β τ ρ (nI p) = some (nI (kc x)) := hk
    have hb := kc_le x
    by_cases q : kc x = 4
    · have hst : mX1_nextToken_L8 F β τ ρ = some (.inr (pf ρ 8 (nI (p + 1)))) := by
        unfold mX1_nextToken_L8
        rw [h4, h5, if_neg (nle (by omega) (by omega) a1), hk, ob1_e, if_pos (show nI (kc x) = (4 : Int32) from by rw [q]; rfl), ob1_e, cnd_T, ob1_e, nI_s]
      obtain ⟨ρ', p', b1, b2, b3, b4, b5⟩ := ih (p + 1) G (pf ρ 8 (nI (p + 1))) (by simp at h1; omega) a3 (by omega) (by rw [pf_at, if_neg (by decide)]; exact h4) (by rw [pf_at, if_pos rfl])
      refine ⟨ρ', p', (loopM_r hst).trans b1, ?_, b3, b4, fun q' hq => (b5 q' hq).trans ?_⟩
      · rw [b2]
        show sk s = sk (x :: s)
        rw [sk, if_pos q]
      · funext i
        rw [pf_at, if_neg hq]
    · refine ⟨ρ, p, loopM_l ?_, ?_, h3, h5, fun _ _ => rfl⟩
      · unfold mX1_nextToken_L8
        rw [h4, h5, if_neg (nle (by omega) (by omega) a1), hk, ob1_e, if_neg (show ¬ nI (kc x) = (4 : Int32) from fun z => q ((nI_i (b := 4) (by omega) (by decide)).mp z)), ob1_e, cnd_F]
      · rw [h2, sk, if_neg q]
theorem vl_le : ∀ (ts : List Nat) (a : Nat), a ≤ 1000000 → vl a ts ≤ 1000000
  | [], a, h => h
  | c :: ts, a, h => by
    show vl (if 10 * a + c - 48 < 1000000 then 10 * a + c - 48 else 1000000) ts ≤ _
    exact vl_le ts _ (by split <;> omega)
theorem r_run (hT : TX T β) {g : Nat} (hg : g ≤ 5) : ∀ (s : List Nat) (p G : Nat) (ρ : MS) (a : Nat), s.length < G → T.drop p = s → p ≤ T.length → ρ 4 0 = nI T.length → ρ 9 0 = nI p → ρ 7 0 = nI g → ρ 10 0 = nI a → a ≤ 1000000 → ∃ ρ', loopM (fun st => mX1_nextToken_L96 F β τ st) G ρ = some ρ' ∧ ρ' 9 0 = nI (p + (s.takeWhile (fun x => kc x == g)).length) ∧ (g = 1 → ρ' 10 0 = nI (vl a (s.takeWhile (fun x => kc x == g)))) ∧ ∀ q, q ≠ 9 → q ≠ 10 → ρ' q = ρ q := by
  have hl := hT.2.2
  intro s
  induction s with
  | nil =>
    intro p G ρ a h1 h2 h3 h4 h5 h6 h7 h8
    obtain ⟨G, rfl⟩ : ∃ m, G = m + 1 := ⟨G - 1, by omega⟩
    have hp := drop_n h2 h3
    refine ⟨ρ, loopM_l ?_, h5, fun _ => h7, fun _ _ _ => rfl⟩
    unfold mX1_nextToken_L96
    rw [h4, h5, if_pos ((nI_leI (by omega) (by omega)).mpr (by omega)), ob1_e, cnd_F]
  | cons x s ih =>
    intro p G ρ a h1 h2 h3 h4 h5 h6 h7 h8
    obtain ⟨G, rfl⟩ : ∃ m, G = m + 1 := ⟨G - 1, by omega⟩
    obtain ⟨a1, a2, a3⟩ := drop_c h2
    have hk := r_kind (F := F) (τ := τ) hT h3 h4
    rw [h2] at hk
    have hk : mX1_kindAt F β τ ρ (nI p) = some (nI (kc x)) := hk
    have hb := kc_le x
    have hx : x < 128 := by
      rw [← a2, List.getD_eq_getElem?_getD, List.getElem?_eq_getElem a1]
      exact hT.1 _ (List.getElem_mem a1)
    rw [List.takeWhile_cons]
    by_cases q : kc x = g
    · rw [if_pos (by simp [q])]
      have hmk : ∀ ρ1 a1 : _, mX1_nextToken_L96 F β τ ρ = some (.inr ρ1) → ρ1 4 0 = nI T.length → ρ1 9 0 = nI (p + 1) → ρ1 7 0 = nI g → ρ1 10 0 = nI a1 → a1 ≤ 1000000 → (∀ q, q ≠ 9 → q ≠ 10 → ρ1 q = ρ q) → (g = 1 → vl a1 (s.takeWhile (fun x => kc x == g)) = vl a (x :: s.takeWhile (fun x => kc x == g))) → ∃ ρ', loopM (fun st => mX1_nextToken_L96 F β τ st) (G + 1) ρ = some ρ' ∧ ρ' 9 0 = nI (p + (x :: s.takeWhile (fun x => kc x == g)).length) ∧ (g = 1 → ρ' 10 0 = nI (vl a (x :: s.takeWhile (fun x => kc x == g)))) ∧ ∀ q, q ≠ 9 → q ≠ 10 → ρ' q = ρ q := by
        intro ρ1 a1' c1 c2 c3 c4 c5 c6 c7 c8
        obtain ⟨ρ', b1, b2, b3, b4⟩ := ih (p + 1) G ρ1 a1' (by simp at h1; omega) a3 (by omega) c2 c3 c4 c5 c6
        refine ⟨ρ', (loopM_r c1).trans b1, ?_, fun hg1 => ?_, fun q hq hq2 => (b4 q hq hq2).trans (c7 q hq hq2)⟩
        · rw [b2, List.length_cons]
          congr 1
          omega
        · rw [b3 hg1, c8 hg1]
      have hL : ¬ nI T.length ≤ nI p := nle (by omega) (by omega) a1
      by_cases hg1 : g = 1
      · have e99 : ∀ V, pf ρ 10 V 9 0 = nI p := fun V => by rw [pf_at, if_neg (by decide), h5]
        have hx48 : 48 ≤ x ∧ x ≤ 57 := by
          rw [hg1] at q
          unfold kc at q
          by_cases z : x < 48 ∨ 57 < x
          · rw [if_pos z] at q
            split at q
            · split at q
              · omega
              · split at q <;> omega
            · omega
          · omega
        have hval : (if ((((10 : Int32) * nI a) + nI x) - (48 : Int32)) < (1000000 : Int32) then ((((10 : Int32) * nI a) + nI x) - (48 : Int32)) else (1000000 : Int32)) = nI (if 10 * a + x - 48 < 1000000 then 10 * a + x - 48 else 1000000) := by
          have e : (((10 : Int32) * nI a) + nI x) - (48 : Int32) = nI (10 * a + x - 48) := by
            rw [show (10 : Int32) = nI 10 from rfl, show (48 : Int32) = nI 48 from rfl, nI_m, nI_a, nI_d (by omega)]
          rw [e]
          by_cases z : 10 * a + x - 48 < 1000000
          · rw [if_pos z, if_pos (show nI (10 * a + x - 48) < (1000000 : Int32) from (nI_lt2 (b := 1000000) (by omega) (by decide)).mpr z)]
          · rw [if_neg z, if_neg (show ¬ nI (10 * a + x - 48) < (1000000 : Int32) from fun y => z ((nI_lt2 (b := 1000000) (by omega) (by decide)).mp y))]
            rfl
        refine hmk (pf (pf ρ 10 (nI (if 10 * a + x - 48 < 1000000 then 10 * a + x - 48 else 1000000))) 9 (nI (p + 1))) (if 10 * a + x - 48 < 1000000 then 10 * a + x - 48 else 1000000) ?_ ?_ ?_ ?_ ?_ (by split <;> omega) (fun q' hq hq2 => ?_) (fun _ => rfl)
        · unfold mX1_nextToken_L96
          rw [h4, h5, if_neg hL, hk, ob1_e, h6, q, if_pos rfl, ob1_e, cnd_T, if_pos (show nI g = (1 : Int32) from by rw [hg1]; rfl), rd_at (by omega) (by decide), ob1_e, hT.2.1 p a1, a2, ob1_e, h7, hval, ob1_e, ob1_e, e99, nI_s]
        · rw [pf_at, if_neg (by decide), pf_at, if_neg (by decide)]; exact h4
        · rw [pf_at, if_pos rfl]
        · rw [pf_at, if_neg (by decide), pf_at, if_neg (by decide)]; exact h6
        · rw [pf_at, if_neg (by decide), pf_at, if_pos rfl]
        · funext i
          rw [pf_at, if_neg hq, pf_at, if_neg hq2]
      · refine hmk (pf ρ 9 (nI (p + 1))) a ?_ ?_ ?_ ?_ ?_ h8 (fun q' hq hq2 => ?_) (fun h => absurd h hg1)
        · unfold mX1_nextToken_L96
          rw [h4, h5, if_neg hL, hk, ob1_e, h6, q, if_pos rfl, ob1_e, cnd_T, if_neg (show ¬ nI g = (1 : Int32) from fun z => hg1 ((nI_i (b := 1) (by omega) (by decide)).mp z)), ob1_e, ob1_e, h5, nI_s]
        · rw [pf_at, if_neg (by decide)]; exact h4
        · rw [pf_at, if_pos rfl]
        · rw [pf_at, if_neg (by decide)]; exact h6
        · rw [pf_at, if_neg (by decide)]; exact h7
        · funext i
          rw [pf_at, if_neg hq]
    · rw [if_neg (by simp [q])]
      refine ⟨ρ, loopM_l ?_, h5, fun _ => h7, fun _ _ _ => rfl⟩
      unfold mX1_nextToken_L96
      rw [h4, h5, if_neg (nle (by omega) (by omega) a1), hk, ob1_e, h6, if_neg (fun z => q ((nI_i (by omega) (by omega)).mp z)), ob1_e, cnd_F]
/-- the reader stands at a token -/
def RD (T : List Nat) (ρ : MS) (s : List Nat) : Prop := ∃ p, T.drop p = s ∧ p ≤ T.length ∧ ρ 7 0 = nI (kdn s) ∧ ρ 8 0 = nI p ∧ ρ 9 0 = nI (p + (tk s).length) ∧ ρ 4 0 = nI T.length ∧ ρ 1 0 = 0 ∧ (kdn s = 1 → ρ 10 0 = nI (vl 0 (tk s)))
theorem r_start (hT : TX T β) (hF : 5000 ≤ F) {p : Nat} (h1 : T.drop p = s) (h2 : p ≤ T.length) (h3 : ρ 9 0 = nI p) (h4 : ρ 4 0 = nI T.length) (h5 : ρ 1 0 = 0) : ∃ ρ', mX1_nextToken F β τ ρ = some ρ' ∧ RD T ρ' (sk s) ∧ ρ' 5 = ρ 5 ∧ ρ' 6 = ρ 6 := by
  have hl := hT.2.2
  have hsl : s.length ≤ 700 := by rw [← h1, List.length_drop]; omega
  obtain ⟨ρ1, p1, a1, a2, a3, a4, a5⟩ := r_skip (F := F) (τ := τ) hT s p F (pf ρ 8 (nI p)) (by omega) h1 h2 (by rw [pf_at, if_neg (by decide)]; exact h4) (by rw [pf_at, if_pos rfl])
  have a5' : ∀ q, q ≠ 8 → ρ1 q = ρ q := fun q hq => (a5 q hq).trans (by funext i; rw [pf_at, if_neg hq])
  have hk := r_kind (F := F) (τ := τ) (ρ := ρ1) hT a3 (by rw [a5' 4 (by decide)]; exact h4)
  rw [a2] at hk
  have hgl := kdn_le (sk s)
  have hskl : (sk s).length ≤ 700 := by rw [← a2, List.length_drop]; omega
  generalize hρ2 : pf (pf (pf ρ1 7 (nI (kdn (sk s)))) 10 0) 9 (nI p1) = ρ2
  have e7 : ρ2 7 0 = nI (kdn (sk s)) := by rw [← hρ2, pf_at, if_neg (by decide), pf_at, if_neg (by decide), pf_at, if_pos rfl]
  have e9 : ρ2 9 0 = nI p1 := by rw [← hρ2, pf_at, if_pos rfl]
  have e10 : ρ2 10 0 = nI 0 := by rw [← hρ2, pf_at, if_neg (by decide), pf_at, if_pos rfl]; rfl
  have e4 : ρ2 4 0 = nI T.length := by rw [← hρ2, pf_at, if_neg (by decide), pf_at, if_neg (by decide), pf_at, if_neg (by decide), a5' 4 (by decide), h4]
  have e8 : ρ2 8 0 = nI p1 := by rw [← hρ2, pf_at, if_neg (by decide), pf_at, if_neg (by decide), pf_at, if_neg (by decide), a4]
  have e1 : ρ2 1 0 = 0 := by rw [← hρ2, pf_at, if_neg (by decide), pf_at, if_neg (by decide), pf_at, if_neg (by decide), a5' 1 (by decide), h5]
  have e56 : ∀ q, q = 5 ∨ q = 6 → ρ2 q = ρ q := fun q hq => by
    rw [← hρ2]
    funext i
    rw [pf_at, if_neg (by omega), pf_at, if_neg (by omega), pf_at, if_neg (by omega), a5' q (by omega)]
  have hpre : mX1_nextToken F β τ ρ = ob1 (if (ρ2 7 0) = (3 : Int32) then some true else (if (ρ2 7 0) = (5 : Int32) then some true else some false)) fun t20 => cnd t20 (ob1 (some (pf ρ2 9 ((ρ2 9 0) + (1 : Int32)))) fun ρ24 => some ρ24) (ob1 (loopM (fun st => mX1_nextToken_L96 F β τ st) F ρ2) fun ρ40 => some ρ40) := by
    unfold mX1_nextToken
    rw [h3, ob1_e, a1, ob1_e, a4, hk, ob1_e, ob1_e, ob1_e, show (pf (pf ρ1 7 (nI (kdn (sk s)))) 10 0) 8 0 = nI p1 from by rw [pf_at, if_neg (by decide), pf_at, if_neg (by decide), a4], hρ2, ob1_e]
  rw [hpre, e7]
  by_cases q : kdn (sk s) = 3 ∨ kdn (sk s) = 5
  · have hne : ∃ x r, sk s = x :: r := by
      cases hh : sk s with
      | nil => rw [hh] at q; exact absurd q (by decide)
      | cons x r => exact ⟨x, r, rfl⟩
    obtain ⟨x, r, hxr⟩ := hne
    have htk : (tk (sk s)).length = 1 := by
      unfold tk
      rw [if_pos q, hxr]
      rfl
    have ht : (if nI (kdn (sk s)) = (3 : Int32) then some true else (if nI (kdn (sk s)) = (5 : Int32) then some true else some false)) = some true := by
      rcases q with q | q
      · rw [q]; rfl
      · rw [q]; rfl
    rw [ht, ob1_e, cnd_T, ob1_e]
    refine ⟨_, rfl, ⟨p1, a2, a3, ?_, ?_, ?_, ?_, ?_, fun h => by omega⟩, ?_, ?_⟩
    · rw [pf_at, if_neg (by decide)]; exact e7
    · rw [pf_at, if_neg (by decide)]; exact e8
    · rw [pf_at, if_pos rfl, htk, e9, nI_s]
    · rw [pf_at, if_neg (by decide)]; exact e4
    · rw [pf_at, if_neg (by decide)]; exact e1
    · funext i; rw [pf_at, if_neg (by decide), e56 5 (Or.inl rfl)]
    · funext i; rw [pf_at, if_neg (by decide), e56 6 (Or.inr rfl)]
  · have ht : (if nI (kdn (sk s)) = (3 : Int32) then some true else (if nI (kdn (sk s)) = (5 : Int32) then some true else some false)) = some false := by
      rw [if_neg (show ¬ nI (kdn (sk s)) = (3 : Int32) from fun z => q (Or.inl ((nI_i (b := 3) (by omega) (by decide)).mp z))), if_neg (show ¬ nI (kdn (sk s)) = (5 : Int32) from fun z => q (Or.inr ((nI_i (b := 5) (by omega) (by decide)).mp z)))]
    rw [ht, ob1_e, cnd_F]
    obtain ⟨ρ3, b1, b2, b3, b4⟩ := r_run (F := F) (τ := τ) hT hgl (sk s) p1 F ρ2 0 (by omega) a2 a3 e4 e9 e7 e10 (by decide)
    have htk : tk (sk s) = (sk s).takeWhile (fun x => kc x == kdn (sk s)) := by
      unfold tk
      rw [if_neg q]
    rw [b1, ob1_e]
    refine ⟨ρ3, rfl, ⟨p1, a2, a3, ?_, ?_, ?_, ?_, ?_, fun h => ?_⟩, ?_, ?_⟩
    · rw [b4 7 (by decide) (by decide)]; exact e7
    · rw [b4 8 (by decide) (by decide)]; exact e8
    · rw [htk]; exact b2
    · rw [b4 4 (by decide) (by decide)]; exact e4
    · rw [b4 1 (by decide) (by decide)]; exact e1
    · rw [htk]; exact b3 h
    · rw [b4 5 (by decide) (by decide)]; exact e56 5 (Or.inl rfl)
    · rw [b4 6 (by decide) (by decide)]; exact e56 6 (Or.inr rfl)
/-- the next token -/
theorem r_next (hT : TX T β) (hF : 5000 ≤ F) (h : RD T ρ s) : ∃ ρ', mX1_nextToken F β τ ρ = some ρ' ∧ RD T ρ' (rs s) ∧ ρ' 5 = ρ 5 ∧ ρ' 6 = ρ 6 := by
  obtain ⟨p, h1, h2, h3, h4, h5, h6, h7, h8⟩ := h
  have hl := tk_le s
  have hsl : s.length = T.length - p := by rw [← h1, List.length_drop]
  exact r_start hT hF (p := p + (tk s).length) (by rw [← List.drop_drop, h1]) (by omega) h5 h6 h7
end RT
