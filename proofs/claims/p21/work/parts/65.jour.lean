/-! pure: a step and a journey are read -/
theorem ob2_as {α β γ δ ε : Type} {X : Option (α × β)} {Y : α → β → Option (γ × δ)} {K : γ → δ → Option ε} : ob2 X (fun a b => ob2 (Y a b) K) = ob2 (ob2 X (fun a b => ob2 (Y a b) (fun v w => some (v, w)))) K := by
  cases X with
  | none => rfl
  | some x =>
    show ob2 (Y x.1 x.2) K = ob2 (ob2 (Y x.1 x.2) (fun v w => some (v, w))) K
    cases Y x.1 x.2 with
    | none => rfl
    | some y => rfl
def aftS (r : List Nat) : Prop := kdn r ≠ 1 ∧ ∀ k, k = 7 ∨ k = 8 → ¬ (kdn (sk r) = 2 ∧ tk (sk r) = sN k)
def tSep (f : Nat → FS) (i : Nat) : List Nat := if i = 0 then [32] else if nv (f i 0) = nv (f (i - 1) 0) then sN 15 else sN 14 ++ [32]
def stR (f : Nat → FS) (i : Nat) : Nat → List Nat
  | 0 => []
  | n + 1 => tSep f i ++ (tBod (f i) ++ stR f (i + 1) n)
theorem stR_s (f : Nat → FS) : ∀ n i, stR f i (n + 1) = stR f i n ++ (tSep f (i + n) ++ tBod (f (i + n)))
  | 0, i => by
    show tSep f i ++ (tBod (f i) ++ []) = [] ++ _
    rw [List.append_nil, List.nil_append]
    rfl
  | n + 1, i => by
    have h := stR_s f n (i + 1)
    have e : stR f i (n + 1 + 1) = tSep f i ++ (tBod (f i) ++ stR f (i + 1) (n + 1)) := rfl
    have e2 : stR f i (n + 1) = tSep f i ++ (tBod (f i) ++ stR f (i + 1) n) := rfl
    rw [e, h, e2, show i + 1 + n = i + (n + 1) by omega]
    simp only [List.append_assoc]
/-- the next step's word, and the end -/
theorem stR_c {f : Nat → FS} {i : Nat} (hi : 1 ≤ i) (n : Nat) (r : List Nat) : (n = 0 ∧ stR f i n ++ 59 :: r = 59 :: r) ∨ ∃ m, n = m + 1 ∧ ((nv (f i 0) = nv (f (i - 1) 0) ∧ stR f i n ++ 59 :: r = 32 :: (sN 5 ++ (32 :: (tBod (f i) ++ (stR f (i + 1) m ++ 59 :: r))))) ∨ (nv (f i 0) ≠ nv (f (i - 1) 0) ∧ stR f i n ++ 59 :: r = sN 6 ++ (32 :: (tBod (f i) ++ (stR f (i + 1) m ++ 59 :: r))))) := by
  cases n with
  | zero => exact Or.inl ⟨rfl, rfl⟩
  | succ m =>
    refine Or.inr ⟨m, rfl, ?_⟩
    have e : stR f i (m + 1) = tSep f i ++ (tBod (f i) ++ stR f (i + 1) m) := rfl
    rw [e]
    unfold tSep
    rw [if_neg (by omega)]
    by_cases q : nv (f i 0) = nv (f (i - 1) 0)
    · refine Or.inl ⟨q, ?_⟩
      rw [if_pos q, show sN 15 = 32 :: (sN 5 ++ [32]) from by decide]
      simp only [List.append_assoc, List.cons_append, List.nil_append]
    · refine Or.inr ⟨q, ?_⟩
      rw [if_neg q, show sN 14 = sN 6 from by decide]
      simp only [List.append_assoc, List.cons_append, List.nil_append]
theorem kdn_32 (r : List Nat) : kdn (32 :: r) = 4 := by show kc 32 = 4; decide
theorem kdn_59 (r : List Nat) : kdn (59 :: r) = 3 := by show kc 59 = 3; decide
theorem kdn_42 (r : List Nat) : kdn (42 :: r) = 3 := by show kc 42 = 3; decide
theorem kdn_58 (r : List Nat) : kdn (58 :: r) = 3 := by show kc 58 = 3; decide
theorem sk_59 (r : List Nat) : sk (59 :: r) = 59 :: r := sk_c (by decide)
theorem sk_42 (r : List Nat) : sk (42 :: r) = 42 :: r := sk_c (by decide)
theorem sk_58 (r : List Nat) : sk (58 :: r) = 58 :: r := sk_c (by decide)
theorem sN_ne : ∀ j k : Fin 9, j ≠ k → sN j.val ≠ sN k.val := by decide +kernel
theorem stR_aft {f : Nat → FS} {i : Nat} (hi : 1 ≤ i) (n : Nat) (r : List Nat) : aftS (stR f i n ++ 59 :: r) := by
  rcases stR_c (f := f) hi n r with ⟨_, e⟩ | ⟨m, _, ⟨_, e⟩ | ⟨_, e⟩⟩
  · rw [e]
    refine ⟨by rw [kdn_59]; decide, fun k _ h => ?_⟩
    rw [sk_59, kdn_59] at h
    exact absurd h.1 (by decide)
  · rw [e]
    refine ⟨by rw [kdn_32]; decide, fun k hk h => ?_⟩
    rw [sk_32, sk_k (by decide)] at h
    have := (tok_k (k := 5) (by decide) (show kdn (32 :: (tBod (f i) ++ (stR f (i + 1) m ++ 59 :: r))) ≠ 2 by rw [kdn_32]; decide)).2.1
    rw [this] at h
    rcases hk with rfl | rfl
    · exact sN_ne 5 7 (by decide) h.2
    · exact sN_ne 5 8 (by decide) h.2
  · rw [e]
    have t := tok_k (k := 6) (by decide) (show kdn (32 :: (tBod (f i) ++ (stR f (i + 1) m ++ 59 :: r))) ≠ 2 by rw [kdn_32]; decide)
    refine ⟨by rw [t.1]; decide, fun k hk h => ?_⟩
    rw [sk_k (by decide), t.2.1] at h
    rcases hk with rfl | rfl
    · exact sN_ne 6 7 (by decide) h.2
    · exact sN_ne 6 8 (by decide) h.2
section RJ
variable {F : Nat} {β : FS} {τ ρ : MS} {T s r : List Nat}
theorem r_step (hT : TX T β) (hF : 5000 ≤ F) {f : FS} {K N q : Nat} (hf : UniOK K f) (h2 : τ 2 0 = nI K) (h10 : τ 10 0 = nI N) (hN : N < 40) (h5 : τ 5 0 = nI (q + 1)) (hq : q < 8) (hr : aftS r) (h : RD T ρ (tBod f ++ r)) : ∃ τ' ρ', mX1_readStep F β τ ρ (f 0) = some (τ', ρ') ∧ RD T ρ' (sk r) ∧ (ρ' 5 = ρ 5 ∧ ρ' 6 = ρ 6) ∧ stq τ' N f ∧ τ' 10 0 = nI (N + 1) ∧ τ' 9 q = nI (N + 1) ∧ τ' 7 q = nI (nv (f 0) + 1) ∧ ∀ c x, ¬ (11 ≤ c ∧ c ≤ 16 ∧ x = N) → c ≠ 10 → ¬ (c = 9 ∧ x = q) → ¬ (c = 7 ∧ x = q) → τ' c x = τ c x := by
  obtain ⟨hn, u0, u1, uK, u2a, u2b, u3a, u3b, u4, u5, u6, u7, u8⟩ := hf
  generalize hW2 : (if nv (f 6) = 0 then r else 32 :: (sN 8 ++ (32 :: (dn (nv (f 6)) ++ r)))) = W2
  generalize hW1 : (if nv (f 5) = 0 then W2 else sN 7 ++ (dn (nv (f 5)) ++ W2)) = W1
  have e : tBod f ++ r = dn (nv (f 1)) ++ (42 :: (dn (nv (f 2)) ++ (58 :: (dn (nv (f 3)) ++ W1)))) := by
    unfold tBod
    rw [show sN 16 = [42] from by decide, show sN 17 = [58] from by decide, show sN 18 = sN 7 from by decide, show sN 19 = 32 :: (sN 8 ++ [32]) from by decide, ← hW1, ← hW2]
    by_cases z5 : nv (f 5) = 0 <;> by_cases z6 : nv (f 6) = 0 <;> simp only [z5, z6, if_true, if_false, List.append_assoc, List.cons_append, List.nil_append]
  rw [e] at h
  have hW2k : kdn W2 ≠ 1 := by
    rw [← hW2]
    split
    · exact hr.1
    · rw [kdn_32]; decide
  have hW2n : ¬ (kdn (sk W2) = 2 ∧ tk (sk W2) = sN 7) := by
    rw [← hW2]
    split
    · exact hr.2 7 (Or.inl rfl)
    · intro z
      rw [sk_32, sk_k (by decide), (tok_k (k := 8) (by decide) (show kdn (32 :: (dn (nv (f 6)) ++ r)) ≠ 2 by rw [kdn_32]; decide)).2.1] at z
      exact sN_ne 8 7 (by decide) z.2
  have hW1k : kdn W1 ≠ 1 := by
    rw [← hW1]
    split
    · exact hW2k
    · rw [(tok_k (k := 7) (by decide) (show kdn (dn (nv (f 5)) ++ W2) ≠ 2 by rw [kdn_d (by omega)]; decide)).1]; decide
  obtain ⟨ρ1, a1, a2, a3, a4⟩ := r_num2 (F := F) (τ := τ) hT hF h (by rw [kdn_42]; decide) (by omega) (lo := 0) (hi := K - 1) (by omega) (by omega) (by omega)
  rw [sk_42] at a2
  obtain ⟨ρ2, b1, b2, b3, b4⟩ := r_sign (F := F) (τ := τ) hT hF (by decide) a2
  rw [sk_d (by omega)] at b2
  obtain ⟨ρ3, c1, c2, c3, c4⟩ := r_num2 (F := F) (τ := τ) hT hF b2 (by rw [kdn_58]; decide) (by omega) (lo := 1) (hi := 999) (by omega) (by omega) (by decide)
  rw [sk_58] at c2
  obtain ⟨ρ4, d1, d2, d3, d4⟩ := r_sign (F := F) (τ := τ) hT hF (by decide) c2
  rw [sk_d (by omega)] at d2
  obtain ⟨ρ5, e1, e2, e3, e4⟩ := r_num2 (F := F) (τ := τ) hT hF d2 hW1k (by omega) (lo := 1) (hi := 99) (by omega) (by omega) (by decide)
  obtain ⟨ρ6, f1, f2, f3, f4⟩ := r_opt (F := F) (τ := τ) (k := 7) (v := nv (f 5)) (w := W1) (r := W2) hT hF (by decide) (by omega) (by rw [← hW1, if_neg (show ¬ (7 : Nat) = 8 by decide)]) hW2k hW2n e2
  have hsk : sk W2 = sk (if nv (f 6) = 0 then r else sN 8 ++ (if (8 : Nat) = 8 then 32 :: (dn (nv (f 6)) ++ r) else dn (nv (f 6)) ++ r)) := by
    rw [← hW2, if_pos rfl]
    split
    · rfl
    · rw [sk_32]
  rw [hsk] at f2
  obtain ⟨ρ7, g1, g2, g3, g4⟩ := r_opt (F := F) (τ := τ) (k := 8) (v := nv (f 6)) (r := r) hT hF (by decide) (by omega) rfl hr.1 (hr.2 8 (Or.inr rfl)) f2
  have hroom : mX0_hasRoomForStep F τ = some 1 := by
    unfold mX0_hasRoomForStep
    rw [h10, if_neg (show ¬ (40 : Int32) ≤ nI N from nle (b := 40) (by omega) (by decide) hN), ob1_e]
  obtain ⟨τ', k0, k1, k2, k3, k4, k5, k6, k7, k8, k9, k10⟩ := c_addStep (F := F) (τ := τ) h10 hN h5 hq (i1 := f 0) (i2 := nI (nv (f 1))) (i3 := nI (nv (f 2))) (i4 := nI (nv (f 3))) (i5 := nI (nv (f 5))) (i6 := nI (nv (f 6)))
  refine ⟨τ', ρ7, ?_, g2, ⟨by rw [g3, f3, e3, d3, c3, b3, a3], by rw [g4, f4, e4, d4, c4, b4, a4]⟩, ⟨k1, k2.trans (hn 1 (by decide)).symm, k3.trans (hn 2 (by decide)).symm, k4.trans (hn 3 (by decide)).symm, k5.trans (hn 5 (by decide)).symm, k6.trans (hn 6 (by decide)).symm⟩, k7, k8, ?_, k10⟩
  · unfold mX1_readStep
    rw [h2, nI_p (by omega), show (0 : Int32) = nI 0 from rfl, a1, ob2_e, hroom, ob1_e, if_neg (show ¬ (1 : Int32) = nI 0 by decide), show (42 : Int32) = nI 42 from rfl, b1, ob1_e, show (1 : Int32) = nI 1 from rfl, show (999 : Int32) = nI 999 from rfl, c1, ob2_e, show (58 : Int32) = nI 58 from rfl, d1, ob1_e, show (99 : Int32) = nI 99 from rfl, e1, ob2_e]
    rw [ob2_as]
    have f1' := f1
    rw [show (0 : Int32) = nI 0 from rfl] at f1'
    rw [f1', ob2_e]
    rw [ob2_as]
    have g1' := g1
    rw [show (0 : Int32) = nI 0 from rfl] at g1'
    rw [g1', ob2_e, k0, ob1_e]
  · rw [k9, hn 0 (by decide), nI_s]
    rw [nv_nI (by omega)]
end RJ
