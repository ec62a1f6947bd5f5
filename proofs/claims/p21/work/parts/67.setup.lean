/-! pure: a setup is read -/
def catR (g : Nat → List Nat) (i : Nat) : Nat → List Nat
  | 0 => []
  | n + 1 => g i ++ catR g (i + 1) n
theorem catR_s (g : Nat → List Nat) : ∀ n i, catR g i (n + 1) = catR g i n ++ g (i + n)
  | 0, i => by
    show g i ++ [] = [] ++ _
    rw [List.append_nil, List.nil_append]
    rfl
  | n + 1, i => by
    have h := catR_s g n (i + 1)
    have e : catR g i (n + 1 + 1) = g i ++ catR g (i + 1) (n + 1) := rfl
    have e2 : catR g i (n + 1) = g i ++ catR g (i + 1) n := rfl
    rw [e, h, e2, show i + 1 + n = i + (n + 1) by omega, List.append_assoc]
theorem catR_congr {g g' : Nat → List Nat} : ∀ n i, (∀ k, i ≤ k → k < i + n → g k = g' k) → catR g i n = catR g' i n
  | 0, _, _ => rfl
  | n + 1, i, h => by
    show g i ++ catR g (i + 1) n = g' i ++ catR g' (i + 1) n
    rw [h i (Nat.le_refl _) (by omega), catR_congr n (i + 1) (fun k h1 h2 => h k (by omega) (by omega))]
theorem catR_len {g : Nat → List Nat} : ∀ n i, (∀ k, i ≤ k → k < i + n → 1 ≤ (g k).length) → n ≤ (catR g i n).length
  | 0, _, _ => Nat.zero_le _
  | n + 1, i, h => by
    show n + 1 ≤ (g i ++ catR g (i + 1) n).length
    rw [List.length_append]
    have := h i (Nat.le_refl _) (by omega)
    have := catR_len n (i + 1) (fun k h1 h2 => h k (by omega) (by omega))
    omega
def off (Ns : PA) : Nat → Nat
  | 0 => 0
  | j + 1 => off Ns j + Ns j
theorem off_le {Ns : PA} {a b : Nat} (h : a ≤ b) : off Ns a ≤ off Ns b := by
  induction b with
  | zero => obtain rfl : a = 0 := by omega
            exact Nat.le_refl _
  | succ b ih =>
    by_cases e : a = b + 1
    · subst e; exact Nat.le_refl _
    · have := ih (by omega)
      show off Ns a ≤ off Ns b + Ns b
      omega
theorem off_9 {Ns : PA} {J : Nat} (h : ∀ j, j < J → Ns j ≤ 9) : ∀ m, m ≤ J → off Ns m ≤ 9 * m
  | 0, _ => Nat.le_refl _
  | m + 1, hm => by
    have := off_9 h m (by omega)
    have := h m (by omega)
    show off Ns m + Ns m ≤ _
    omega
def tKs (κ : MS) (k : Nat) : List Nat := tStk (κ k)
def tJs (Φ Ψ : WS) (Ns : PA) (j : Nat) : List Nat := tJr (nv (Φ j 0 0)) (Ψ j) (Ns j)
def tWa (W : Nat) : List Nat := if W = 0 then [] else sN 20 ++ (dn W ++ sN 12)
def tPa (P : Nat) : List Nat := if P = 0 then [] else sN 21 ++ (dn P ++ sN 22)
/-- stocks that are read -/
def KT (τ κ : MS) (K : Nat) : Prop := τ 2 0 = nI K ∧ ∀ k, k < K → τ 3 k = κ k 0 ∧ τ 4 k = κ k 1
/-- journeys that are read -/
def JT (τ : MS) (Φ Ψ : WS) (Ns : PA) (m : Nat) : Prop := τ 5 0 = nI m ∧ τ 10 0 = nI (off Ns m) ∧ ∀ j, j < m → τ 6 j = nI (nv (Φ j 0 0)) ∧ τ 7 j = nI (nv (Ψ j (Ns j - 1) 0) + 1) ∧ τ 8 j = nI (off Ns j) ∧ τ 9 j = nI (off Ns j + Ns j) ∧ ∀ x, x < Ns j → stq τ (off Ns j + x) (Ψ j x)
section RS
variable {F : Nat} {β : FS} {τ ρ : MS} {T s r : List Nat}
theorem RD.e4 (h : RD T ρ s) : ρ 4 0 = nI T.length := by
  obtain ⟨p, _, _, _, _, _, h6, _, _⟩ := h
  exact h6
theorem RD.e7 (h : RD T ρ s) : ρ 7 0 = nI (kdn s) := by
  obtain ⟨p, _, _, h3, _, _, _, _, _⟩ := h
  exact h3
theorem RD.pf (h : RD T ρ s) {q : Nat} (hq : q = 5 ∨ q = 6) (v : Int32) : RD T (pf ρ q v) s := by
  obtain ⟨p, h1, h2, h3, h4, h5, h6, h7, h8⟩ := h
  refine ⟨p, h1, h2, ?_, ?_, ?_, ?_, ?_, fun z => ?_⟩
  · rw [pf_at, if_neg (by omega)]; exact h3
  · rw [pf_at, if_neg (by omega)]; exact h4
  · rw [pf_at, if_neg (by omega)]; exact h5
  · rw [pf_at, if_neg (by omega)]; exact h6
  · rw [pf_at, if_neg (by omega)]; exact h7
  · rw [pf_at, if_neg (by omega)]; exact h8 z
/-- the loop goes on -/
theorem r_go (hT : TX T β) (h : RD T ρ s) (hk : kdn s = 2) {vv : Nat} (hv : vv < T.length) : (if (ρ 4 0) ≤ nI vv then some false else (if (ρ 1 0) = 0 then (if (ρ 7 0) = 0 then some false else some true) else some false)) = some true := by
  have := hT.2.2
  rw [h.e4, if_neg (nle (by omega) (by omega) hv), h.e1, if_pos rfl, h.e7, hk]
  rfl
theorem tStk_e (f : FS) (r : List Nat) : tStk f ++ r = sN 1 ++ (32 :: (dn (nv (f 0)) ++ (32 :: (dn (nv (f 1)) ++ (59 :: r))))) := by
  unfold tStk
  rw [show sN 10 = sN 1 ++ [32] from by decide, show sN 11 = [32] from by decide, show sN 12 = [59] from by decide]
  simp only [List.append_assoc, List.cons_append, List.nil_append]
theorem r_itS (hT : TX T β) (hF : 5000 ≤ F) {f : FS} (hf : StkOK f) {K vv : Nat} (h2 : τ 2 0 = nI K) (hK : K < 6) (hv : vv < T.length) (h : RD T ρ (sk (tStk f ++ r))) : ∃ τ' ρ', mX1_readSetup_L18 F β (nI vv) τ ρ = some (.inr (nI (vv + 1), τ', ρ')) ∧ RD T ρ' (sk r) ∧ (ρ' 5 = ρ 5 ∧ ρ' 6 = ρ 6) ∧ τ' 2 0 = nI (K + 1) ∧ τ' 3 K = f 0 ∧ τ' 4 K = f 1 ∧ ∀ c x, ¬ (c = 2) → ¬ (3 ≤ c ∧ c ≤ 4 ∧ x = K) → τ' c x = τ c x := by
  have e := tStk_e f r
  rw [e, sk_k (by decide)] at h
  have h' := h
  rw [← e] at h'
  obtain ⟨τ', ρ1, a1, a2, a3, a4, a5, a6, a7⟩ := r_stock (F := F) hT hF hf h2 hK h'
  obtain ⟨ρ2, b1, b2, b3, b4⟩ := r_sign (F := F) (τ := τ') hT hF (by decide) a2
  refine ⟨τ', ρ2, ?_, b2, ⟨b3.trans a3.1, b4.trans a3.2⟩, a4, a5, a6, a7⟩
  have w1 := r_isK (F := F) (τ := τ) hT hF (k := 1) (by decide) h (by rw [kdn_32]; decide) 1 (by decide)
  have hk := (tok_k (k := 1) (by decide) (show kdn (32 :: (dn (nv (f 0)) ++ (32 :: (dn (nv (f 1)) ++ (59 :: r))))) ≠ 2 by rw [kdn_32]; decide)).1
  unfold mX1_readSetup_L18
  rw [r_go hT h hk hv, ob1_e, cnd_T, w1, ob1_e, if_neg (by decide), a1, ob2_e, ob2_e, show (59 : Int32) = nI 59 from rfl, b1, ob1_e, nI_s]
theorem r_stocks (hT : TX T β) (hF : 5000 ≤ F) {κ : MS} : ∀ (n i vv : Nat) (τ ρ : MS), (∀ k, i ≤ k → k < i + n → StkOK (κ k)) → i + n ≤ 6 → KT τ κ i → vv + n ≤ T.length → RD T ρ (sk (catR (tKs κ) i n ++ r)) → ∃ τ' ρ', (∀ G, loopM (fun st : Int32 × MS × MS => mX1_readSetup_L18 F β st.1 st.2.1 st.2.2) (G + n) (nI vv, τ, ρ) = loopM (fun st : Int32 × MS × MS => mX1_readSetup_L18 F β st.1 st.2.1 st.2.2) G (nI (vv + n), τ', ρ')) ∧ RD T ρ' (sk r) ∧ (ρ' 5 = ρ 5 ∧ ρ' 6 = ρ 6) ∧ KT τ' κ (i + n) ∧ ∀ c x, c ≠ 2 → c ≠ 3 → c ≠ 4 → τ' c x = τ c x := by
  intro n
  induction n with
  | zero =>
    intro i vv τ ρ h1 h2 h3 h4 h5
    exact ⟨τ, ρ, fun G => rfl, h5, ⟨rfl, rfl⟩, h3, fun _ _ _ _ _ => rfl⟩
  | succ n ih =>
    intro i vv τ ρ h1 h2 h3 h4 h5
    have e : catR (tKs κ) i (n + 1) ++ r = tStk (κ i) ++ (catR (tKs κ) (i + 1) n ++ r) := by
      show tStk (κ i) ++ catR (tKs κ) (i + 1) n ++ r = _
      rw [List.append_assoc]
    rw [e] at h5
    obtain ⟨τ1, ρ1, a1, a2, a3, a4, a5, a6, a7⟩ := r_itS (F := F) hT hF (h1 i (Nat.le_refl _) (by omega)) h3.1 (by omega) (vv := vv) (by omega) h5
    have hk1 : KT τ1 κ (i + 1) := ⟨a4, fun k hk => by
      by_cases z : k = i
      · subst z; exact ⟨a5, a6⟩
      · obtain ⟨x1, x2⟩ := h3.2 k (by omega)
        exact ⟨by rw [a7 3 k (by decide) (by omega), x1], by rw [a7 4 k (by decide) (by omega), x2]⟩⟩
    obtain ⟨τ2, ρ2, b1, b2, b3, b4, b5⟩ := ih (i + 1) (vv + 1) τ1 ρ1 (fun k k1 k2 => h1 k (by omega) (by omega)) (by omega) hk1 (by omega) a2
    refine ⟨τ2, ρ2, fun G => ?_, b2, ⟨b3.1.trans a3.1, b3.2.trans a3.2⟩, by rw [show i + (n + 1) = i + 1 + n by omega]; exact b4, fun c x g1 g2 g3 => by rw [b5 c x g1 g2 g3, a7 c x g1 (by omega)]⟩
    have hb := b1 G
    rw [show vv + 1 + n = vv + (n + 1) by omega] at hb
    rw [← hb]
    exact loopM_r (n := G + n) a1
theorem tJr_e (t : Nat) (f : Nat → FS) (n : Nat) (r : List Nat) : tJr t f n ++ r = sN 2 ++ (32 :: (dn t ++ (stR f 0 n ++ (sN 12 ++ r)))) := by
  unfold tJr
  rw [show sN 13 = sN 2 ++ [32] from by decide]
  simp only [List.append_assoc, List.cons_append, List.nil_append]
theorem r_jours (hT : TX T β) (hF : 5000 ≤ F) {K J : Nat} {Φ Ψ : WS} {Ns : PA} (hJ : ∀ j, j < J → JrOK K (Ψ j) (Ns j) ∧ 1 ≤ Ns j ∧ Ns j ≤ 9 ∧ nv (Φ j 0 0) < 1000) (hJ4 : J ≤ 4) : ∀ (n i vv : Nat) (τ ρ : MS), i + n = J → τ 2 0 = nI K → JT τ Φ Ψ Ns i → vv + n ≤ T.length → RD T ρ (sk (catR (tJs Φ Ψ Ns) i n ++ r)) → ∃ τ' ρ', (∀ G, loopM (fun st : Int32 × MS × MS => mX1_readSetup_L18 F β st.1 st.2.1 st.2.2) (G + n) (nI vv, τ, ρ) = loopM (fun st : Int32 × MS × MS => mX1_readSetup_L18 F β st.1 st.2.1 st.2.2) G (nI (vv + n), τ', ρ')) ∧ RD T ρ' (sk r) ∧ (ρ' 5 = ρ 5 ∧ ρ' 6 = ρ 6) ∧ JT τ' Φ Ψ Ns J ∧ ∀ c x, c ≤ 4 → τ' c x = τ c x := by
  intro n
  induction n with
  | zero =>
    intro i vv τ ρ h1 h2 h3 h4 h5
    exact ⟨τ, ρ, fun G => rfl, h5, ⟨rfl, rfl⟩, by rw [← h1]; exact h3, fun _ _ _ => rfl⟩
  | succ n ih =>
    intro i vv τ ρ h1 h2 h3 h4 h5
    obtain ⟨j1, j2, j3, j4⟩ := hJ i (by omega)
    have e : catR (tJs Φ Ψ Ns) i (n + 1) ++ r = tJr (nv (Φ i 0 0)) (Ψ i) (Ns i) ++ (catR (tJs Φ Ψ Ns) (i + 1) n ++ r) := by
      show tJr (nv (Φ i 0 0)) (Ψ i) (Ns i) ++ catR (tJs Φ Ψ Ns) (i + 1) n ++ r = _
      rw [List.append_assoc]
    generalize hr' : catR (tJs Φ Ψ Ns) (i + 1) n ++ r = r' at e
    have e2 := tJr_e (nv (Φ i 0 0)) (Ψ i) (Ns i) r'
    rw [e, e2, sk_k (by decide)] at h5
    have h5' := h5
    rw [← e2] at h5'
    have hoff := off_9 (fun j hj => (hJ j hj).2.2.1) i (by omega)
    obtain ⟨q1, q2, q3⟩ := h3
    obtain ⟨τ1, ρ1, a1, a2, a3, a4, a5, a6, a7, a8, a9, a10, a11⟩ := r_jour (F := F) hT hF j1 j2 j3 h2 q1 q2 (by omega) (by omega) j4 h5'
    obtain ⟨ρ2, b1, b2, b3, b4⟩ := r_sign (F := F) (τ := τ1) hT hF (by decide) a2
    have w1 := r_isK (F := F) (τ := τ) hT hF (k := 2) (by decide) h5 (by rw [kdn_32]; decide) 1 (by decide)
    have w2 := r_isK (F := F) (τ := τ) hT hF (k := 2) (by decide) h5 (by rw [kdn_32]; decide) 2 (by decide)
    have hk : kdn (sN 2 ++ (32 :: (dn (nv (Φ i 0 0)) ++ (stR (Ψ i) 0 (Ns i) ++ (sN 12 ++ r'))))) = 2 := (tok_k (k := 2) (by decide) (by rw [kdn_32]; decide)).1
    have hst : mX1_readSetup_L18 F β (nI vv) τ ρ = some (.inr (nI (vv + 1), τ1, ρ2)) := by
      unfold mX1_readSetup_L18
      rw [r_go hT h5 hk (by omega), ob1_e, cnd_T, w1, ob1_e, if_pos (by decide), w2, ob1_e, if_neg (by decide), a1, ob2_e, ob2_e, show (59 : Int32) = nI 59 from rfl, b1, ob1_e, nI_s]
    have hj1 : JT τ1 Φ Ψ Ns (i + 1) := by
      refine ⟨a4, a5, fun j hj => ?_⟩
      by_cases z : j = i
      · subst z
        exact ⟨a6, a7, a8, a9, a10⟩
      · obtain ⟨x1, x2, x3, x4, x5⟩ := q3 j (by omega)
        have hoj : off Ns j + Ns j ≤ off Ns i := off_le (Ns := Ns) (show j + 1 ≤ i by omega)
        refine ⟨?_, ?_, ?_, ?_, fun x hx => ?_⟩
        · rw [a11 6 j (by decide) (by decide) (by omega) (by omega), x1]
        · rw [a11 7 j (by decide) (by decide) (by omega) (by omega), x2]
        · rw [a11 8 j (by decide) (by decide) (by omega) (by omega), x3]
        · rw [a11 9 j (by decide) (by decide) (by omega) (by omega), x4]
        · obtain ⟨y1, y2, y3, y4, y5, y6⟩ := x5 x hx
          refine ⟨?_, ?_, ?_, ?_, ?_, ?_⟩
          · rw [a11 11 _ (by decide) (by decide) (by omega) (by omega), y1]
          · rw [a11 12 _ (by decide) (by decide) (by omega) (by omega), y2]
          · rw [a11 13 _ (by decide) (by decide) (by omega) (by omega), y3]
          · rw [a11 14 _ (by decide) (by decide) (by omega) (by omega), y4]
          · rw [a11 15 _ (by decide) (by decide) (by omega) (by omega), y5]
          · rw [a11 16 _ (by decide) (by decide) (by omega) (by omega), y6]
    have hfr : ∀ c x, c ≤ 4 → τ1 c x = τ c x := fun c x hc => a11 c x (by omega) (by omega) (by omega) (by omega)
    rw [← hr'] at b2
    obtain ⟨τ2, ρ3, d1, d2, d3, d4, d5⟩ := ih (i + 1) (vv + 1) τ1 ρ2 (by omega) (by rw [hfr 2 0 (by decide), h2]) hj1 (by omega) b2
    refine ⟨τ2, ρ3, fun G => ?_, d2, ⟨d3.1.trans (b3.trans a3.1), d3.2.trans (b4.trans a3.2)⟩, d4, fun c x hc => (d5 c x hc).trans (hfr c x hc)⟩
    have hb := d1 G
    rw [show vv + 1 + n = vv + (n + 1) by omega] at hb
    rw [← hb]
    exact loopM_r (n := G + n) hst
/-- how long to wait -/
theorem r_wait (hT : TX T β) (hF : 5000 ≤ F) {W vv : Nat} (hW : W ≤ 9) (h5 : ρ 5 0 = 0) (hv : vv + (if W = 0 then 0 else 1) ≤ T.length) (h : RD T ρ (sk (tWa W ++ r))) : ∃ ρ', (∀ G, loopM (fun st : Int32 × MS × MS => mX1_readSetup_L18 F β st.1 st.2.1 st.2.2) (G + (if W = 0 then 0 else 1)) (nI vv, τ, ρ) = loopM (fun st : Int32 × MS × MS => mX1_readSetup_L18 F β st.1 st.2.1 st.2.2) G (nI (vv + (if W = 0 then 0 else 1)), (if W = 0 then τ else pf τ 0 (nI W)), ρ')) ∧ RD T ρ' (sk r) ∧ ρ' 6 = ρ 6 := by
  unfold tWa at h
  by_cases z : W = 0
  · rw [if_pos z] at h
    refine ⟨ρ, fun G => ?_, h, rfl⟩
    rw [if_pos z, if_pos z]
    rfl
  · rw [if_neg z] at h hv
    rw [if_neg z, if_neg z]
    have e : sN 20 ++ (dn W ++ sN 12) ++ r = sN 3 ++ (32 :: (dn W ++ (59 :: r))) := by
      rw [show sN 20 = sN 3 ++ [32] from by decide, show sN 12 = [59] from by decide]
      simp only [List.append_assoc, List.cons_append, List.nil_append]
    rw [e, sk_k (by decide)] at h
    have hn2 : kdn (32 :: (dn W ++ (59 :: r))) ≠ 2 := by rw [kdn_32]; decide
    have h' := h.pf (Or.inl rfl) 1
    obtain ⟨ρ1, a1, a2, a3, a4⟩ := r_nextK (F := F) (τ := τ) hT hF (by decide) h' hn2
    rw [sk_32, sk_d (by omega)] at a2
    obtain ⟨ρ2, b1, b2, b3, b4⟩ := r_num2 (F := F) (τ := τ) hT hF a2 (by rw [kdn_59]; decide) (by omega) (lo := 1) (hi := 99) (by omega) (by omega) (by decide)
    rw [sk_59] at b2
    obtain ⟨ρ3, c1, c2, c3, c4⟩ := r_sign (F := F) (τ := pf τ 0 (nI W)) hT hF (by decide) b2
    have w1 := r_isK (F := F) (τ := τ) hT hF (k := 3) (by decide) h hn2 1 (by decide)
    have w2 := r_isK (F := F) (τ := τ) hT hF (k := 3) (by decide) h hn2 2 (by decide)
    have w3 := r_isK (F := F) (τ := τ) hT hF (k := 3) (by decide) h hn2 3 (by decide)
    refine ⟨ρ3, fun G => loopM_r ?_, c2, ?_⟩
    · show mX1_readSetup_L18 F β (nI vv) τ ρ = _
      unfold mX1_readSetup_L18
      rw [r_go hT h (tok_k (k := 3) (by decide) hn2).1 (by omega), ob1_e, cnd_T, w1, ob1_e, if_pos (by decide), w2, ob1_e, if_pos (by decide), w3, ob1_e, if_neg (by decide), h5, if_pos rfl, ob1_e, cnd_T, ob1_e, a1, ob1_e, show (1 : Int32) = nI 1 from rfl, show (99 : Int32) = nI 99 from rfl, b1, ob2_e, ob1_e, ob2_e, show (59 : Int32) = nI 59 from rfl, c1, ob1_e, show nI vv + nI 1 = nI (vv + 1) from nI_a _ _]
    · rw [c4, b4, a4]
      funext i
      rw [pf_at, if_neg (by decide)]
/-- how much patience -/
theorem r_pat (hT : TX T β) (hF : 5000 ≤ F) {P vv : Nat} (hP : P ≤ 9) (h6 : ρ 6 0 = 0) (hv : vv + (if P = 0 then 0 else 1) ≤ T.length) (h : RD T ρ (sk (tPa P ++ r))) : ∃ ρ', (∀ G, loopM (fun st : Int32 × MS × MS => mX1_readSetup_L18 F β st.1 st.2.1 st.2.2) (G + (if P = 0 then 0 else 1)) (nI vv, τ, ρ) = loopM (fun st : Int32 × MS × MS => mX1_readSetup_L18 F β st.1 st.2.1 st.2.2) G (nI (vv + (if P = 0 then 0 else 1)), (if P = 0 then τ else pf τ 1 (nI P)), ρ')) ∧ RD T ρ' (sk r) := by
  unfold tPa at h
  by_cases z : P = 0
  · rw [if_pos z] at h
    refine ⟨ρ, fun G => ?_, h⟩
    rw [if_pos z, if_pos z]
    rfl
  · rw [if_neg z] at h hv
    rw [if_neg z, if_neg z]
    have e : sN 21 ++ (dn P ++ sN 22) ++ r = sN 4 ++ (dn P ++ (32 :: (59 :: r))) := by
      rw [show sN 21 = sN 4 from by decide, show sN 22 = [32, 59] from by decide]
      simp only [List.append_assoc, List.cons_append, List.nil_append]
    rw [e, sk_k (by decide)] at h
    have hn2 : kdn (dn P ++ (32 :: (59 :: r))) ≠ 2 := by rw [kdn_d (by omega)]; decide
    have h' := h.pf (Or.inr rfl) 1
    obtain ⟨ρ1, a1, a2, a3, a4⟩ := r_nextK (F := F) (τ := τ) hT hF (by decide) h' hn2
    rw [sk_d (by omega)] at a2
    obtain ⟨ρ2, b1, b2, b3, b4⟩ := r_num2 (F := F) (τ := τ) hT hF a2 (by rw [kdn_32]; decide) (by omega) (lo := 1) (hi := 9) (by omega) (by omega) (by decide)
    rw [sk_32, sk_59] at b2
    obtain ⟨ρ3, c1, c2, c3, c4⟩ := r_sign (F := F) (τ := pf τ 1 (nI P)) hT hF (by decide) b2
    have w1 := r_isK (F := F) (τ := τ) hT hF (k := 4) (by decide) h hn2 1 (by decide)
    have w2 := r_isK (F := F) (τ := τ) hT hF (k := 4) (by decide) h hn2 2 (by decide)
    have w3 := r_isK (F := F) (τ := τ) hT hF (k := 4) (by decide) h hn2 3 (by decide)
    have w4 := r_isK (F := F) (τ := τ) hT hF (k := 4) (by decide) h hn2 4 (by decide)
    refine ⟨ρ3, fun G => loopM_r ?_, c2⟩
    show mX1_readSetup_L18 F β (nI vv) τ ρ = _
    unfold mX1_readSetup_L18
    rw [r_go hT h (tok_k (k := 4) (by decide) hn2).1 (by omega), ob1_e, cnd_T, w1, ob1_e, if_pos (by decide), w2, ob1_e, if_pos (by decide), w3, ob1_e, if_pos (by decide), ob1_e, cnd_F, w4, ob1_e, if_neg (by decide), h6, if_pos rfl, ob1_e, cnd_T, ob1_e, a1, ob1_e, show (1 : Int32) = nI 1 from rfl, show (9 : Int32) = nI 9 from rfl, b1, ob2_e, ob1_e, ob2_e, show (59 : Int32) = nI 59 from rfl, c1, ob1_e, show nI vv + nI 1 = nI (vv + 1) from nI_a _ _]
/-- the whole text -/
def tAll (κ : MS) (K : Nat) (Φ Ψ : WS) (Ns : PA) (J W P : Nat) : List Nat := sN 9 ++ (catR (tKs κ) 0 K ++ (catR (tJs Φ Ψ Ns) 0 J ++ (tWa W ++ tPa P)))
theorem r_setup (hT : TX T β) (hF : 5000 ≤ F) {κ : MS} {K J W P : Nat} {Φ Ψ : WS} {Ns : PA} (e : T = tAll κ K Φ Ψ Ns J W P) (hK : ∀ k, k < K → StkOK (κ k)) (hK3 : K ≤ 3) (hJ : ∀ j, j < J → JrOK K (Ψ j) (Ns j) ∧ 1 ≤ Ns j ∧ Ns j ≤ 9 ∧ nv (Φ j 0 0) < 1000) (hJ4 : J ≤ 4) (hW : W ≤ 9) (hP : P ≤ 9) : ∃ τ1 ρ1, mX1_readSetup F β τ0 (ρ0 (nI T.length)) = some (τ1, ρ1) ∧ ρ1 1 0 = 0 ∧ KT τ1 κ K ∧ JT τ1 Φ Ψ Ns J ∧ τ1 0 0 = (if W = 0 then 5 else nI W) ∧ τ1 1 0 = (if P = 0 then 3 else nI P) := by
  have hl := hT.2.2
  have l9 : (sN 9).length = 6 := by decide
  have hlen : K + J + (if W = 0 then 0 else 1) + (if P = 0 then 0 else 1) + 6 ≤ T.length := by
    have x1 := catR_len (g := tKs κ) K 0 (fun k _ _ => by
      show 1 ≤ (tStk (κ k)).length
      unfold tStk
      rw [List.length_append, show (sN 10).length = 6 from by decide]; omega)
    have x2 := catR_len (g := tJs Φ Ψ Ns) J 0 (fun k _ _ => by
      show 1 ≤ (tJr _ _ _).length
      unfold tJr
      rw [List.length_append, show (sN 13).length = 8 from by decide]; omega)
    have x3 : (if W = 0 then 0 else 1) ≤ (tWa W).length := by
      unfold tWa
      split
      · exact Nat.zero_le _
      · rw [List.length_append, show (sN 20).length = 5 from by decide]; omega
    have x4 : (if P = 0 then 0 else 1) ≤ (tPa P).length := by
      unfold tPa
      split
      · exact Nat.zero_le _
      · rw [List.length_append, show (sN 21).length = 8 from by decide]; omega
    rw [e]
    unfold tAll
    rw [List.length_append, List.length_append, List.length_append, List.length_append, l9]
    omega
  have h40 : ρ0 (nI T.length) 4 0 = nI T.length := by
    show (if (0 : Int32) < (if (700 : Int32) < nI T.length then 700 else nI T.length) then (if (700 : Int32) < nI T.length then 700 else nI T.length) else 0) = _
    rw [if_neg (show ¬ (700 : Int32) < nI T.length from fun z => by have := (nI_lt2 (a := 700) (by decide) (by omega)).mp z; omega), if_pos (show (0 : Int32) < nI T.length from (nI_lt2 (a := 0) (by decide) (by omega)).mpr (by omega))]
  obtain ⟨ρ1, a1, a2, a3, a4⟩ := r_start (F := F) (τ := τ0) (ρ := ρ0 (nI T.length)) hT hF (p := 0) (s := T) rfl (Nat.zero_le _) rfl h40 rfl
  have eT : sk T = sN 0 ++ (59 :: (catR (tKs κ) 0 K ++ (catR (tJs Φ Ψ Ns) 0 J ++ (tWa W ++ tPa P)))) := by
    rw [e]
    unfold tAll
    rw [show sN 9 = sN 0 ++ [59] from by decide, List.append_assoc, sk_k (by decide)]
    rfl
  rw [eT] at a2
  have hk0 := tok_k (k := 0) (r := 59 :: (catR (tKs κ) 0 K ++ (catR (tJs Φ Ψ Ns) 0 J ++ (tWa W ++ tPa P)))) (by decide) (by rw [kdn_59]; decide)
  obtain ⟨ρ2, b1, b2, b3, b4⟩ := r_word (F := F) (τ := τ0) hT hF a2 (k := 0) ⟨hk0.1, hk0.2.1⟩
  rw [hk0.2.2, sk_59] at b2
  obtain ⟨ρ3, c1, c2, c3, c4⟩ := r_sign (F := F) (τ := τ0) hT hF (by decide) b2
  have hf5 : ρ3 5 0 = 0 := by rw [c3, b3, a3]; rfl
  have hf6 : ρ3 6 0 = 0 := by rw [c4, b4, a4]; rfl
  obtain ⟨τ1, ρ4, d1, d2, d3, d4, d5⟩ := r_stocks (F := F) (κ := κ) hT hF K 0 0 τ0 ρ3 (fun k _ hk => hK k (by omega)) (by omega) ⟨rfl, fun k hk => absurd hk (Nat.not_lt_zero _)⟩ (by omega) c2
  rw [Nat.zero_add] at d1 d4
  obtain ⟨τ2, ρ5, e1, e2, e3, e4, e5⟩ := r_jours (F := F) (K := K) hT hF hJ hJ4 J 0 K τ1 ρ4 (by omega) d4.1 ⟨by rw [d5 5 0 (by decide) (by decide) (by decide)]; rfl, by rw [d5 10 0 (by decide) (by decide) (by decide)]; rfl, fun j hj => absurd hj (Nat.not_lt_zero _)⟩ (by omega) d2
  obtain ⟨ρ6, f1, f2, f3⟩ := r_wait (F := F) (τ := τ2) (vv := K + J) hT hF hW (by rw [e3.1, d3.1]; exact hf5) (by omega) e2
  obtain ⟨ρ7, g1, g2⟩ := r_pat (F := F) (ρ := ρ6) (τ := if W = 0 then τ2 else pf τ2 0 (nI W)) (vv := K + J + (if W = 0 then 0 else 1)) (r := []) hT hF hP (by rw [f3, e3.2, d3.2]; exact hf6) (by omega) (by rw [List.append_nil]; exact f2)
  have g2 : RD T ρ7 [] := g2
  generalize hv4 : K + J + (if W = 0 then 0 else 1) + (if P = 0 then 0 else 1) = v4 at *
  generalize hτ3 : (if P = 0 then (if W = 0 then τ2 else pf τ2 0 (nI W)) else pf (if W = 0 then τ2 else pf τ2 0 (nI W)) 1 (nI P)) = τ3 at *
  have hend : mX1_readSetup_L18 F β (nI v4) τ3 ρ7 = some (.inl (τ3, ρ7)) := by
    unfold mX1_readSetup_L18
    rw [g2.e4, if_neg (nle (by omega) (by omega) (by omega)), g2.e1, if_pos rfl, g2.e7, show kdn [] = 0 from rfl, if_pos (show nI 0 = 0 from rfl), ob1_e, cnd_F]
  have hloop : loopM (fun st : Int32 × MS × MS => mX1_readSetup_L18 F β st.1 st.2.1 st.2.2) F ((0 : Int32), τ0, ρ3) = some (τ3, ρ7) := by
    obtain ⟨G, hG⟩ : ∃ G, F = G + 1 + (if P = 0 then 0 else 1) + (if W = 0 then 0 else 1) + J + K := ⟨F - v4 - 1, by omega⟩
    have hx := d1 (G + 1 + (if P = 0 then 0 else 1) + (if W = 0 then 0 else 1) + J)
    rw [← hG, e1, f1, g1] at hx
    rw [show (0 : Int32) = nI 0 from rfl, hx]
    exact loopM_l (n := G) hend
  have h34 : ∀ c x, 2 ≤ c → τ3 c x = τ2 c x := fun c x hc => by
    rw [← hτ3]
    split <;> split
    · rfl
    · rw [pf_at, if_neg (by omega)]
    · rw [pf_at, if_neg (by omega)]
    · rw [pf_at, if_neg (by omega), pf_at, if_neg (by omega)]
  refine ⟨τ3, ρ7, ?_, g2.e1, ⟨?_, fun k hk => ?_⟩, ⟨?_, ?_, fun j hj => ?_⟩, ?_, ?_⟩
  · unfold mX1_readSetup
    rw [a1, ob1_e, b1, ob1_e, show (59 : Int32) = nI 59 from rfl, c1, ob1_e, hloop, ob2_e]
  · rw [h34 2 0 (by decide), e5 2 0 (by decide), d4.1]
  · rw [h34 3 k (by decide), h34 4 k (by decide), e5 3 k (by decide), e5 4 k (by decide)]
    exact d4.2 k hk
  · rw [h34 5 0 (by decide)]; exact e4.1
  · rw [h34 10 0 (by decide)]; exact e4.2.1
  · have := e4.2.2 j hj
    unfold stq at this ⊢
    simp only [h34 6 _ (by decide), h34 7 _ (by decide), h34 8 _ (by decide), h34 9 _ (by decide), h34 11 _ (by decide), h34 12 _ (by decide), h34 13 _ (by decide), h34 14 _ (by decide), h34 15 _ (by decide), h34 16 _ (by decide)]
    exact this
  · rw [← hτ3]
    have x0 : τ2 0 0 = 5 := by rw [e5 0 0 (by decide), d5 0 0 (by decide) (by decide) (by decide)]; rfl
    by_cases p : P = 0 <;> by_cases w : W = 0
    · rw [if_pos p, if_pos w, if_pos w, x0]
    · rw [if_pos p, if_neg w, if_neg w, pf_at, if_pos rfl]
    · rw [if_neg p, if_pos w, if_pos w, pf_at, if_neg (by decide), x0]
    · rw [if_neg p, if_neg w, if_neg w, pf_at, if_neg (by decide), pf_at, if_pos rfl]
  · rw [← hτ3]
    have x0 : τ2 1 0 = 3 := by rw [e5 1 0 (by decide), d5 1 0 (by decide) (by decide) (by decide)]; rfl
    by_cases p : P = 0 <;> by_cases w : W = 0
    · rw [if_pos p, if_pos p, if_pos w, x0]
    · rw [if_pos p, if_pos p, if_neg w, pf_at, if_neg (by decide), x0]
    · rw [if_neg p, if_neg p, pf_at, if_pos rfl]
    · rw [if_neg p, if_neg p, pf_at, if_pos rfl]
end RS
