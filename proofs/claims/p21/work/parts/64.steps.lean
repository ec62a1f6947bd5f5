/-! pure: a stock and a step are read -/
theorem dn_ok : ∀ v : Fin 1000, (dn v.val).all (fun x => kc x == 1 && decide (x < 128)) = true ∧ vl 0 (dn v.val) = v.val := by decide +kernel
theorem dn_ne (v : Nat) : dn v ≠ [] := by
  intro h
  have := dn_len v
  rw [h] at this
  unfold nd at this
  split at this
  · cases this
  · split at this <;> cases this
theorem dn_1 {v : Nat} (hv : v < 1000) : (∀ x ∈ dn v, kc x = 1) ∧ (∀ x ∈ dn v, x < 128) ∧ vl 0 (dn v) = v := by
  obtain ⟨h1, h2⟩ := dn_ok ⟨v, hv⟩
  have h1 := List.all_eq_true.mp h1
  refine ⟨fun x hx => ?_, fun x hx => ?_, h2⟩
  · have := h1 x hx
    rw [Bool.and_eq_true] at this
    exact eq_of_beq this.1
  · have := h1 x hx
    rw [Bool.and_eq_true] at this
    exact of_decide_eq_true this.2
theorem wd_ok : ∀ k : Fin 9, (∀ x ∈ sN k.val, kc x = 2) ∧ sN k.val ≠ [] := by decide +kernel
theorem tok_k {k : Nat} {r : List Nat} (hk : k < 9) (hr : kdn r ≠ 2) : kdn (sN k ++ r) = 2 ∧ tk (sN k ++ r) = sN k ∧ rs (sN k ++ r) = sk r := tok_w (Or.inr rfl) (wd_ok ⟨k, hk⟩).1 (wd_ok ⟨k, hk⟩).2 hr
theorem tok_d {v : Nat} {r : List Nat} (hv : v < 1000) (hr : kdn r ≠ 1) : kdn (dn v ++ r) = 1 ∧ tk (dn v ++ r) = dn v ∧ rs (dn v ++ r) = sk r := tok_w (Or.inl rfl) (dn_1 hv).1 (dn_ne v) hr
theorem kdn_d {v : Nat} {r : List Nat} (hv : v < 1000) : kdn (dn v ++ r) = 1 := by
  have h := (dn_1 hv).1
  have h0 := dn_ne v
  generalize dn v = w at h h0
  cases w with
  | nil => exact absurd rfl h0
  | cons x w => exact h x (List.mem_cons_self ..)
theorem sk_d {v : Nat} {r : List Nat} (hv : v < 1000) : sk (dn v ++ r) = dn v ++ r := sk_n (dn_ne v) fun x hx => by rw [(dn_1 hv).1 x hx]; decide
theorem sk_k {k : Nat} {r : List Nat} (hk : k < 9) : sk (sN k ++ r) = sN k ++ r := sk_n (wd_ok ⟨k, hk⟩).2 fun x hx => by rw [(wd_ok ⟨k, hk⟩).1 x hx]; decide
section RQ
variable {F : Nat} {β : FS} {τ ρ : MS} {T s r : List Nat}
theorem r_num2 (hT : TX T β) (hF : 5000 ≤ F) {v lo hi : Nat} (h : RD T ρ (dn v ++ r)) (hr : kdn r ≠ 1) (hv : v < 1000) (h1 : lo ≤ v) (h2 : v ≤ hi) (hh : hi < 100000) : ∃ ρ', mX1_readNumber F β τ ρ (nI lo) (nI hi) = some (nI v, ρ') ∧ RD T ρ' (sk r) ∧ ρ' 5 = ρ 5 ∧ ρ' 6 = ρ 6 := by
  obtain ⟨a1, a2, a3⟩ := tok_d (r := r) hv hr
  have := r_num (F := F) (τ := τ) hT hF h a1 (v := v) (by rw [a2]; exact (dn_1 hv).2.2) h1 h2 hh
  rw [a3] at this
  exact this
theorem r_nextK (hT : TX T β) (hF : 5000 ≤ F) {k : Nat} (hk : k < 9) (h : RD T ρ (sN k ++ r)) (hr : kdn r ≠ 2) : ∃ ρ', mX1_nextToken F β τ ρ = some ρ' ∧ RD T ρ' (sk r) ∧ ρ' 5 = ρ 5 ∧ ρ' 6 = ρ 6 := by
  have := r_next (F := F) (τ := τ) hT hF h
  rw [(tok_k hk hr).2.2] at this
  exact this
/-- the texts -/
def tStk (f : FS) : List Nat := sN 10 ++ (dn (nv (f 0)) ++ (sN 11 ++ (dn (nv (f 1)) ++ sN 12)))
def tBod (f : FS) : List Nat := dn (nv (f 1)) ++ (sN 16 ++ (dn (nv (f 2)) ++ (sN 17 ++ (dn (nv (f 3)) ++ ((if nv (f 5) = 0 then [] else sN 18 ++ dn (nv (f 5))) ++ (if nv (f 6) = 0 then [] else sN 19 ++ dn (nv (f 6))))))))
def StkOK (f : FS) : Prop := f 0 = nI (nv (f 0)) ∧ nv (f 0) < 1000 ∧ f 1 = nI (nv (f 1)) ∧ 1 ≤ nv (f 1) ∧ nv (f 1) ≤ 9
def UniOK (K : Nat) (f : FS) : Prop := (∀ c, c < 9 → f c = nI (nv (f c))) ∧ nv (f 0) ≤ 2 ∧ nv (f 1) < K ∧ K ≤ 3 ∧ 1 ≤ nv (f 2) ∧ nv (f 2) ≤ 30 ∧ 1 ≤ nv (f 3) ∧ nv (f 3) ≤ 4 ∧ f 4 = 0 ∧ nv (f 5) ≤ 6 ∧ nv (f 6) ≤ 3 ∧ f 7 = f 6 ∧ f 8 = 0
theorem r_stock (hT : TX T β) (hF : 5000 ≤ F) {f : FS} (hf : StkOK f) {K : Nat} (h2 : τ 2 0 = nI K) (hK : K < 6) (h : RD T ρ (tStk f ++ r)) : ∃ τ' ρ', mX1_readStock F β τ ρ = some (τ', ρ') ∧ RD T ρ' (59 :: r) ∧ (ρ' 5 = ρ 5 ∧ ρ' 6 = ρ 6) ∧ τ' 2 0 = nI (K + 1) ∧ τ' 3 K = f 0 ∧ τ' 4 K = f 1 ∧ ∀ c x, ¬ (c = 2) → ¬ (3 ≤ c ∧ c ≤ 4 ∧ x = K) → τ' c x = τ c x := by
  obtain ⟨f0, f1, f2, f3, f4⟩ := hf
  have e : tStk f ++ r = sN 1 ++ (32 :: (dn (nv (f 0)) ++ (32 :: (dn (nv (f 1)) ++ (59 :: r))))) := by
    unfold tStk
    rw [show sN 10 = sN 1 ++ [32] from by decide, show sN 11 = [32] from by decide, show sN 12 = [59] from by decide]
    simp only [List.append_assoc, List.cons_append, List.nil_append]
  rw [e] at h
  obtain ⟨ρ1, a1, a2, a3, a4⟩ := r_nextK (F := F) (τ := τ) hT hF (by decide) h (show kdn (32 :: _) ≠ 2 from by show kc 32 ≠ 2; decide)
  rw [sk_32, sk_d (by omega)] at a2
  obtain ⟨ρ2, b1, b2, b3, b4⟩ := r_num2 (F := F) (τ := τ) hT hF a2 (show kdn (32 :: _) ≠ 1 from by show kc 32 ≠ 1; decide) (by omega) (lo := 0) (hi := 9999) (by omega) (by omega) (by decide)
  rw [sk_32, sk_d (by omega)] at b2
  obtain ⟨ρ3, c1, c2, c3, c4⟩ := r_num2 (F := F) (τ := τ) hT hF b2 (show kdn (59 :: _) ≠ 1 from by show kc 59 ≠ 1; decide) (by omega) (lo := 1) (hi := 9) (by omega) (by omega) (by decide)
  rw [sk_c (by decide)] at c2
  have hroom : mX0_hasRoomForStock F τ = some 1 := by
    unfold mX0_hasRoomForStock
    rw [h2, if_neg (show ¬ (6 : Int32) ≤ nI K from nle (b := 6) (by omega) (by decide) hK), ob1_e]
  have hadd : mX0_addStock F τ (nI (nv (f 0))) (nI (nv (f 1))) = some (pf (u2 (u2 τ 3 K (nI (nv (f 0)))) 4 K (nI (nv (f 1)))) 2 (nI (K + 1))) := by
    unfold mX0_addStock
    rw [hroom, ob1_e, if_neg (by decide), h2, wra_at hK (by decide), ob1_e, u2_n _ _ _ _ _ _ (by omega), h2, wra_at hK (by decide), ob1_e, u2_n _ _ _ _ _ _ (by omega), u2_n _ _ _ _ _ _ (by omega), h2, nI_s, ob1_e, ob1_e]
  refine ⟨pf (u2 (u2 τ 3 K (nI (nv (f 0)))) 4 K (nI (nv (f 1)))) 2 (nI (K + 1)), ρ3, ?_, c2, ⟨by rw [c3, b3, a3], by rw [c4, b4, a4]⟩, ?_, ?_, ?_, fun c x hc hx => ?_⟩
  · unfold mX1_readStock
    rw [hroom, ob1_e, if_neg (by decide), a1, ob1_e, show (0 : Int32) = nI 0 from rfl, show (9999 : Int32) = nI 9999 from rfl, b1, ob2_e, show (1 : Int32) = nI 1 from rfl, show (9 : Int32) = nI 9 from rfl, c1, ob2_e, hadd, ob1_e]
  · rw [pf_at, if_pos rfl]
  · rw [pf_at, if_neg (by decide), u2_n _ _ _ _ _ _ (by omega), u2_s]; exact f0.symm
  · rw [pf_at, if_neg (by decide), u2_s]; exact f2.symm
  · rw [pf_at, if_neg hc, u2_n _ _ _ _ _ _ (by omega), u2_n _ _ _ _ _ _ (by omega)]
/-- one step's row -/
def stq (τ : MS) (s : Nat) (f : FS) : Prop := τ 11 s = f 0 ∧ τ 12 s = f 1 ∧ τ 13 s = f 2 ∧ τ 14 s = f 3 ∧ τ 15 s = f 5 ∧ τ 16 s = f 6
theorem c_addStep {N q : Nat} (h10 : τ 10 0 = nI N) (hN : N < 40) (h5 : τ 5 0 = nI (q + 1)) (hq : q < 8) {i1 i2 i3 i4 i5 i6 : Int32} : ∃ τ', mX0_addStep F τ i1 i2 i3 i4 i5 i6 = some τ' ∧ τ' 11 N = i1 ∧ τ' 12 N = i2 ∧ τ' 13 N = i3 ∧ τ' 14 N = i4 ∧ τ' 15 N = i5 ∧ τ' 16 N = i6 ∧ τ' 10 0 = nI (N + 1) ∧ τ' 9 q = nI (N + 1) ∧ τ' 7 q = i1 + 1 ∧ ∀ c x, ¬ (11 ≤ c ∧ c ≤ 16 ∧ x = N) → c ≠ 10 → ¬ (c = 9 ∧ x = q) → ¬ (c = 7 ∧ x = q) → τ' c x = τ c x := by
  have hroom : mX0_hasRoomForStep F τ = some 1 := by
    unfold mX0_hasRoomForStep
    rw [h10, if_neg (show ¬ (40 : Int32) ≤ nI N from nle (b := 40) (by omega) (by decide) hN), ob1_e]
  refine ⟨u2 (u2 (pf (u2 (u2 (u2 (u2 (u2 (u2 τ 11 N i1) 12 N i2) 13 N i3) 14 N i4) 15 N i5) 16 N i6) 10 (nI (N + 1))) 9 q (nI (N + 1))) 7 q (i1 + 1), ?_, ?_, ?_, ?_, ?_, ?_, ?_, ?_, ?_, ?_, fun c x g1 g2 g3 g4 => ?_⟩
  · have g9 : ∀ μ : MS, wra μ 9 8 (nI q) (nI (N + 1)) = some (u2 μ 9 q (nI (N + 1))) := fun μ => wra_at hq (by decide)
    have g7 : ∀ μ : MS, wra μ 7 8 (nI q) (i1 + 1) = some (u2 μ 7 q (i1 + 1)) := fun μ => wra_at hq (by decide)
    have gw : ∀ (μ : MS) (c : Nat) (v : Int32), wra μ c 40 (nI N) v = some (u2 μ c N v) := fun μ c v => wra_at hN (by decide)
    have h5m : nI (q + 1) - 1 = nI q := by rw [nI_p (by omega)]; rfl
    unfold mX0_addStep
    rw [hroom, ob1_e, if_neg (by decide), h5, if_neg (show ¬ nI (q + 1) ≤ (0 : Int32) from nle (a := 0) (by decide) (by omega) (by omega)), ob1_e, cnd_T]
    rw [h10, gw, ob1_e, u2_n _ _ _ _ _ _ (by omega), h10, gw, ob1_e]
    rw [u2_n _ _ _ _ _ _ (by omega), u2_n _ _ _ _ _ _ (by omega), h10, gw, ob1_e]
    rw [u2_n _ _ _ _ _ _ (by omega), u2_n _ _ _ _ _ _ (by omega), u2_n _ _ _ _ _ _ (by omega), h10, gw, ob1_e]
    rw [u2_n _ _ _ _ _ _ (by omega), u2_n _ _ _ _ _ _ (by omega), u2_n _ _ _ _ _ _ (by omega), u2_n _ _ _ _ _ _ (by omega), h10, gw, ob1_e]
    rw [u2_n _ _ _ _ _ _ (by omega), u2_n _ _ _ _ _ _ (by omega), u2_n _ _ _ _ _ _ (by omega), u2_n _ _ _ _ _ _ (by omega), u2_n _ _ _ _ _ _ (by omega), h10, gw, ob1_e]
    rw [u2_n _ _ _ _ _ _ (by omega), u2_n _ _ _ _ _ _ (by omega), u2_n _ _ _ _ _ _ (by omega), u2_n _ _ _ _ _ _ (by omega), u2_n _ _ _ _ _ _ (by omega), u2_n _ _ _ _ _ _ (by omega), h10, nI_s, ob1_e]
    generalize hm : u2 (u2 (u2 (u2 (u2 (u2 τ 11 N i1) 12 N i2) 13 N i3) 14 N i4) 15 N i5) 16 N i6 = μ
    have m5 : μ 5 0 = nI (q + 1) := by
      rw [← hm, u2_n _ _ _ _ _ _ (by omega), u2_n _ _ _ _ _ _ (by omega), u2_n _ _ _ _ _ _ (by omega), u2_n _ _ _ _ _ _ (by omega), u2_n _ _ _ _ _ _ (by omega), u2_n _ _ _ _ _ _ (by omega), h5]
    rw [show pf μ 10 (nI (N + 1)) 5 0 = nI (q + 1) from by rw [pf_at, if_neg (by decide), m5], show pf μ 10 (nI (N + 1)) 10 0 = nI (N + 1) from by rw [pf_at, if_pos rfl], h5m, g9, ob1_e]
    rw [u2_n _ _ _ _ _ _ (by omega), show pf μ 10 (nI (N + 1)) 5 0 = nI (q + 1) from by rw [pf_at, if_neg (by decide), m5], h5m, g7, ob1_e, ob1_e]
  · rw [u2_n _ _ _ _ _ _ (by omega), u2_n _ _ _ _ _ _ (by omega), pf_at, if_neg (by decide), u2_n _ _ _ _ _ _ (by omega), u2_n _ _ _ _ _ _ (by omega), u2_n _ _ _ _ _ _ (by omega), u2_n _ _ _ _ _ _ (by omega), u2_n _ _ _ _ _ _ (by omega), u2_s]
  · rw [u2_n _ _ _ _ _ _ (by omega), u2_n _ _ _ _ _ _ (by omega), pf_at, if_neg (by decide), u2_n _ _ _ _ _ _ (by omega), u2_n _ _ _ _ _ _ (by omega), u2_n _ _ _ _ _ _ (by omega), u2_n _ _ _ _ _ _ (by omega), u2_s]
  · rw [u2_n _ _ _ _ _ _ (by omega), u2_n _ _ _ _ _ _ (by omega), pf_at, if_neg (by decide), u2_n _ _ _ _ _ _ (by omega), u2_n _ _ _ _ _ _ (by omega), u2_n _ _ _ _ _ _ (by omega), u2_s]
  · rw [u2_n _ _ _ _ _ _ (by omega), u2_n _ _ _ _ _ _ (by omega), pf_at, if_neg (by decide), u2_n _ _ _ _ _ _ (by omega), u2_n _ _ _ _ _ _ (by omega), u2_s]
  · rw [u2_n _ _ _ _ _ _ (by omega), u2_n _ _ _ _ _ _ (by omega), pf_at, if_neg (by decide), u2_n _ _ _ _ _ _ (by omega), u2_s]
  · rw [u2_n _ _ _ _ _ _ (by omega), u2_n _ _ _ _ _ _ (by omega), pf_at, if_neg (by decide), u2_s]
  · rw [u2_n _ _ _ _ _ _ (by omega), u2_n _ _ _ _ _ _ (by omega), pf_at, if_pos rfl]
  · rw [u2_n _ _ _ _ _ _ (by omega), u2_s]
  · rw [u2_s]
  · rw [u2_n _ _ _ _ _ _ (by omega), u2_n _ _ _ _ _ _ (by omega), pf_at, if_neg g2, u2_n _ _ _ _ _ _ (by omega), u2_n _ _ _ _ _ _ (by omega), u2_n _ _ _ _ _ _ (by omega), u2_n _ _ _ _ _ _ (by omega), u2_n _ _ _ _ _ _ (by omega), u2_n _ _ _ _ _ _ (by omega)]
/-- a number after a word, if the word stands there -/
theorem r_opt (hT : TX T β) (hF : 5000 ≤ F) {k v : Nat} (hk : k < 9) (hv : v < 10) {w : List Nat} (hw : w = if v = 0 then r else sN k ++ (if k = 8 then 32 :: (dn v ++ r) else dn v ++ r)) (hr : kdn r ≠ 1) (hn : ¬ (kdn (sk r) = 2 ∧ tk (sk r) = sN k)) (h : RD T ρ (sk w)) : ∃ ρ', (ob2 (mX1_skipsWord F β τ ρ k) fun r12 ρ13 => ob2 (if r12 = 0 then some ((0 : Int32), ρ13) else ob2 (mX1_readNumber F β τ ρ13 (0 : Int32) (9 : Int32)) fun r20 ρ21 => some (r20, ρ21)) fun v15 ρ16 => some (v15, ρ16)) = some (nI v, ρ') ∧ RD T ρ' (sk r) ∧ ρ' 5 = ρ 5 ∧ ρ' 6 = ρ 6 := by
  by_cases hv0 : v = 0
  · rw [if_pos hv0] at hw
    subst hw
    refine ⟨ρ, ?_, h, rfl, rfl⟩
    rw [r_skipF hT hF h hn, ob2_e, if_pos rfl, ob2_e, hv0]
    rfl
  · rw [if_neg hv0] at hw
    obtain ⟨y, hy1, hy2, hy3⟩ : ∃ y, w = sN k ++ y ∧ kdn y ≠ 2 ∧ sk y = dn v ++ r := by
      by_cases q : k = 8
      · rw [if_pos q] at hw
        exact ⟨_, hw, show kc 32 ≠ 2 by decide, by rw [sk_32, sk_d (by omega)]⟩
      · rw [if_neg q] at hw
        exact ⟨_, hw, by rw [kdn_d (by omega)]; decide, sk_d (by omega)⟩
    rw [hy1, sk_k hk] at h
    obtain ⟨a1, a2, a3⟩ := tok_k (r := y) hk hy2
    obtain ⟨ρ1, b1, b2, b3, b4⟩ := r_skipT (F := F) (τ := τ) hT hF h ⟨a1, a2⟩
    rw [a3, hy3] at b2
    obtain ⟨ρ2, c1, c2, c3, c4⟩ := r_num2 (F := F) (τ := τ) hT hF b2 hr (by omega) (lo := 0) (hi := 9) (by omega) (by omega) (by decide)
    refine ⟨ρ2, ?_, c2, by rw [c3, b3], by rw [c4, b4]⟩
    rw [b1, ob2_e, if_neg (by decide), show (0 : Int32) = nI 0 from rfl, show (9 : Int32) = nI 9 from rfl, c1, ob2_e, ob2_e]
end RQ
