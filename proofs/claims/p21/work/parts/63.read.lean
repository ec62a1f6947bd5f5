/-! pure: words, signs, numbers are read -/
theorem takeW_ap {q : Nat → Bool} {r : List Nat} (hr : ∀ x r', r = x :: r' → q x = false) : ∀ w : List Nat, (∀ x ∈ w, q x = true) → (w ++ r).takeWhile q = w
  | [], _ => by
    cases r with
    | nil => rfl
    | cons x r' => rw [List.nil_append, List.takeWhile_cons, if_neg (by rw [hr x r' rfl]; decide)]
  | x :: w, h => by
    rw [List.cons_append, List.takeWhile_cons, if_pos (h x (List.mem_cons_self ..)), takeW_ap hr w (fun y hy => h y (List.mem_cons_of_mem _ hy))]
/-- a word or a number, and what follows it -/
theorem tok_w {g : Nat} {w r : List Nat} (hg : g = 1 ∨ g = 2) (hw : ∀ x ∈ w, kc x = g) (h0 : w ≠ []) (hr : kdn r ≠ g) : kdn (w ++ r) = g ∧ tk (w ++ r) = w ∧ rs (w ++ r) = sk r := by
  have e1 : kdn (w ++ r) = g := by
    cases w with
    | nil => exact absurd rfl h0
    | cons x w => exact hw x (List.mem_cons_self ..)
  have e2 : tk (w ++ r) = w := by
    unfold tk
    rw [e1, if_neg (by omega)]
    refine takeW_ap (fun x r' hx => ?_) w (fun x hx => by simp [hw x hx])
    rw [hx] at hr
    have hr : kc x ≠ g := hr
    simp [hr]
  refine ⟨e1, e2, ?_⟩
  unfold rs
  rw [e2, List.drop_left]
theorem tok_s {c : Nat} {r : List Nat} (hc : kc c = 3) : kdn (c :: r) = 3 ∧ tk (c :: r) = [c] ∧ rs (c :: r) = sk r := by
  have e1 : kdn (c :: r) = 3 := hc
  have e2 : tk (c :: r) = [c] := by
    unfold tk
    rw [e1, if_pos (Or.inl rfl)]
    rfl
  refine ⟨e1, e2, ?_⟩
  unfold rs
  rw [e2]
  rfl
theorem sk_n {w r : List Nat} (h0 : w ≠ []) (h : ∀ x ∈ w, kc x ≠ 4) : sk (w ++ r) = w ++ r := by
  cases w with
  | nil => exact absurd rfl h0
  | cons x w => rw [List.cons_append, sk, if_neg (h x (List.mem_cons_self ..))]
theorem sk_32 (r : List Nat) : sk (32 :: r) = sk r := by rw [sk, if_pos (by decide)]
theorem sk_c {c : Nat} {r : List Nat} (h : kc c ≠ 4) : sk (c :: r) = c :: r := by rw [sk, if_neg h]
section RW
variable {F : Nat} {β : FS} {τ ρ : MS} {T s : List Nat}
theorem r_is (hT : TX T β) (hF : 5000 ≤ F) (h : RD T ρ s) (k : Nat) : mX1_wordIs F β τ ρ k = some (b01 (decide (kdn s = 2 ∧ tk s = sN k))) := by
  obtain ⟨p, h1, h2, h3, h4, h5, h6, h7, h8⟩ := h
  obtain ⟨t1, t2, t3⟩ := hT
  have hl := tk_le s
  have hsl : s.length = T.length - p := by rw [← h1, List.length_drop]
  have hk := kdn_le s
  have hkl : (sN k).length = (sW k).length := List.length_map ..
  have hkb : (sN k).length ≤ 20 := by
    unfold sN sW
    rw [List.getD_eq_getElem?_getD, List.length_map]
    cases hh : sTab[k]? with
    | none => exact Nat.zero_le _
    | some y => exact (by decide +kernel : ∀ y ∈ sTab, y.length ≤ 20) y (List.mem_of_getElem? hh)
  unfold mX1_wordIs
  rw [h3, h4, h5, nI_d (by omega), Nat.add_sub_cancel_left]
  unfold sLen
  by_cases q1 : kdn s = 2
  · rw [if_pos (show nI (kdn s) = (2 : Int32) from by rw [q1]; rfl)]
    by_cases q2 : (tk s).length = (sN k).length
    · rw [if_pos (by rw [q2, hkl]), ob1_e, cnd_F]
      have hcN := (sN_ok k).1
      have hloop : loopM (fun st => mX1_wordIs_L28 F k β τ ρ st) F (0 : Int32) = some (if exB (fun i => decide (s.getD i 0 ≠ (sN k).getD i 0)) 0 (sN k).length then .inl (0 : Int32) else .inr ()) := by
        refine loop_ex (P := fun i => decide (s.getD i 0 ≠ (sN k).getD i 0)) (lo := 0) (b := (sN k).length) (fun i hi1 hi2 => ?_) ?_ (sN k).length 0 F (Nat.le_refl _) (by omega) (by omega)
        · show mX1_wordIs_L28 F k β τ ρ (nI i) = _
          unfold mX1_wordIs_L28 sLen
          have hc : sChr k (nI i) = some (nI ((sN k).getD i 0)) := by
            rw [show sChr k (nI i) = rd (fun j => (sW k).getD j 0) (sW k).length (nI i) from rfl, rd_at (by omega) (by omega)]
            show some ((sW k).getD i 0) = _
            rw [← (sN_ok k).2, getD_nI]
          have hs : T.getD (p + i) 0 = s.getD i 0 := by
            rw [← h1, List.getD_eq_getElem?_getD, List.getD_eq_getElem?_getD, List.getElem?_drop]
          have b1 : s.getD i 0 < 128 := by
            rw [← hs, List.getD_eq_getElem?_getD, List.getElem?_eq_getElem (by omega)]
            exact t1 _ (List.getElem_mem (by omega))
          have b2 : (sN k).getD i 0 < 128 := by
            rw [List.getD_eq_getElem?_getD, List.getElem?_eq_getElem hi2]
            exact hcN _ (List.getElem_mem hi2)
          rw [if_neg (nle (by omega) (by omega) (by omega)), h4, nI_a, rd_at (by omega) (by decide), ob1_e, hc, ob1_e, t2 _ (by omega), hs, nI_s]
          by_cases z : s.getD i 0 = (sN k).getD i 0
          · rw [if_pos (by rw [z]), if_neg (fun y => (show s.getD i 0 ≠ (sN k).getD i 0 from of_decide_eq_true y) z)]
          · rw [if_neg (fun y => z ((nI_i (by omega) (by omega)).mp y)), if_pos (decide_eq_true z)]
        · show mX1_wordIs_L28 F k β τ ρ (nI (sN k).length) = _
          unfold mX1_wordIs_L28 sLen
          rw [if_pos ((nI_leI (by omega) (by omega)).mpr (by omega))]
      rw [hloop, ob1_e]
      have heq : tk s = sN k ↔ ∀ i, i < (sN k).length → s.getD i 0 = (sN k).getD i 0 := by
        rw [← tk_pre s]
        constructor
        · intro e i hi
          rw [← e, List.getD_eq_getElem?_getD, List.getD_eq_getElem?_getD, List.getElem?_take, if_pos (by omega)]
        · intro e
          refine List.ext_getElem (by rw [List.length_take]; omega) (fun i hi1 hi2 => ?_)
          have := e i hi2
          rw [List.getD_eq_getElem?_getD, List.getD_eq_getElem?_getD, List.getElem?_eq_getElem hi2, List.getElem?_eq_getElem (show i < s.length by omega)] at this
          rw [List.getElem_take]
          exact this
      by_cases z : tk s = sN k
      · have hx : exB (fun i => decide (s.getD i 0 ≠ (sN k).getD i 0)) 0 (sN k).length = false := (exB_F _ _ _).mpr fun i _ hi => by
          have := heq.mp z i (by omega)
          exact decide_eq_false (fun y => y this)
        rw [hx]
        rw [show decide (kdn s = 2 ∧ tk s = sN k) = true from decide_eq_true ⟨q1, z⟩]
        rfl
      · have hx : exB (fun i => decide (s.getD i 0 ≠ (sN k).getD i 0)) 0 (sN k).length = true := by
          cases hb : exB (fun i => decide (s.getD i 0 ≠ (sN k).getD i 0)) 0 (sN k).length with
          | true => rfl
          | false =>
            refine absurd (heq.mpr fun i hi => ?_) z
            have := (exB_F _ _ _).mp hb i (Nat.zero_le _) (by omega)
            exact Decidable.of_not_not (of_decide_eq_false this)
        rw [hx]
        rw [show decide (kdn s = 2 ∧ tk s = sN k) = false from decide_eq_false (fun y => z y.2)]
        rfl
    · rw [if_neg (fun y => q2 (by rw [hkl]; exact (nI_i (by omega) (by omega)).mp y)), ob1_e, cnd_T]
      rw [show decide (kdn s = 2 ∧ tk s = sN k) = false from decide_eq_false (fun y => q2 (by rw [y.2]))]
      rfl
  · rw [if_neg (show ¬ nI (kdn s) = (2 : Int32) from fun z => q1 ((nI_i (b := 2) (by omega) (by decide)).mp z)), ob1_e, cnd_T]
    rw [show decide (kdn s = 2 ∧ tk s = sN k) = false from decide_eq_false (fun y => q1 y.1)]
    rfl
/-- a word is skipped -/
theorem r_skipT (hT : TX T β) (hF : 5000 ≤ F) (h : RD T ρ s) {k : Nat} (hk : kdn s = 2 ∧ tk s = sN k) : ∃ ρ', mX1_skipsWord F β τ ρ k = some (1, ρ') ∧ RD T ρ' (rs s) ∧ ρ' 5 = ρ 5 ∧ ρ' 6 = ρ 6 := by
  obtain ⟨ρ', e1, e2, e3⟩ := r_next (F := F) (τ := τ) hT hF h
  refine ⟨ρ', ?_, e2, e3⟩
  unfold mX1_skipsWord
  rw [r_is hT hF h, decide_eq_true hk, ob1_e, if_neg (show ¬ b01 true = 0 by decide), e1, ob1_e]
theorem r_skipF (hT : TX T β) (hF : 5000 ≤ F) (h : RD T ρ s) {k : Nat} (hk : ¬ (kdn s = 2 ∧ tk s = sN k)) : mX1_skipsWord F β τ ρ k = some (0, ρ) := by
  unfold mX1_skipsWord
  rw [r_is hT hF h, decide_eq_false hk, ob1_e, if_pos (show b01 false = 0 by decide)]
theorem r_word (hT : TX T β) (hF : 5000 ≤ F) (h : RD T ρ s) {k : Nat} (hk : kdn s = 2 ∧ tk s = sN k) : ∃ ρ', mX1_takeWord F β τ ρ k = some ρ' ∧ RD T ρ' (rs s) ∧ ρ' 5 = ρ 5 ∧ ρ' 6 = ρ 6 := by
  obtain ⟨ρ', e1, e2, e3⟩ := r_skipT (F := F) (τ := τ) hT hF h hk
  refine ⟨ρ', ?_, e2, e3⟩
  unfold mX1_takeWord
  rw [e1, ob2_e, if_neg (by decide), ob1_e]
theorem r_sign (hT : TX T β) (hF : 5000 ≤ F) {c : Nat} {r : List Nat} (hc : kc c = 3) (h : RD T ρ (c :: r)) : ∃ ρ', mX1_takeSign F β τ ρ (nI c) = some ρ' ∧ RD T ρ' (sk r) ∧ ρ' 5 = ρ 5 ∧ ρ' 6 = ρ 6 := by
  obtain ⟨ρ', e1, e2, e3⟩ := r_next (F := F) (τ := τ) hT hF h
  rw [(tok_s hc).2.2] at e2
  refine ⟨ρ', ?_, e2, e3⟩
  obtain ⟨p, h1, h2, h3, h4, h5, h6, h7, h8⟩ := h
  obtain ⟨a1, a2, a3⟩ := drop_c h1
  have := hT.2.2
  have hcc : kdn (c :: r) = 3 := hc
  unfold mX1_takeSign
  rw [h3, hcc, if_pos (show nI 3 = (3 : Int32) from rfl), h4, rd_at (by omega) (by decide), ob1_e, hT.2.1 p a1, a2, if_pos rfl, ob1_e, cnd_F, e1, ob1_e]
theorem r_num (hT : TX T β) (hF : 5000 ≤ F) (h : RD T ρ s) (hk : kdn s = 1) {v lo hi : Nat} (hv : vl 0 (tk s) = v) (h1 : lo ≤ v) (h2 : v ≤ hi) (hh : hi < 100000) : ∃ ρ', mX1_readNumber F β τ ρ (nI lo) (nI hi) = some (nI v, ρ') ∧ RD T ρ' (rs s) ∧ ρ' 5 = ρ 5 ∧ ρ' 6 = ρ 6 := by
  obtain ⟨ρ', e1, e2, e3⟩ := r_next (F := F) (τ := τ) hT hF h
  refine ⟨ρ', ?_, e2, e3⟩
  obtain ⟨p, g1, g2, g3, g4, g5, g6, g7, g8⟩ := h
  have g8 := g8 hk
  rw [hv] at g8
  unfold mX1_readNumber
  rw [g3, hk, if_pos (show nI 1 = (1 : Int32) from rfl), g8, if_neg (fun z => Nat.not_lt.mpr h1 ((nI_lt2 (by omega) (by omega)).mp z)), if_pos ((nI_leI (by omega) (by omega)).mpr h2), ob1_e, cnd_F, e1, ob1_e]
end RW
