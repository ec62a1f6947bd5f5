/-! pure: both read a stock, the wait, the patience; a statement -/
section RD
variable {T : FS} {L : Nat} {ν τ ρ μ : MS} {X Y : XT} {b : Nat} {F : Nat} {β : FS}
/-- one more stock -/
def asF (τ : MS) (S : Nat) (i1 i2 : Int32) : MS := pf (u2 (u2 τ 3 S i1) 4 S i2) 2 (nI (S + 1))
theorem c_roomS {S : Nat} (h : τ 2 0 = nI S) (hS : S ≤ 6) : mX0_hasRoomForStock F τ = some (b01 (decide (S < 6))) := by
  unfold mX0_hasRoomForStock
  rw [h]
  by_cases q : S < 6
  · rw [if_neg (i32_nle (c := 6) (b := 6) rfl (by omega) (by decide) q), ob1_e]; simp [q, b01]
  · have : S = 6 := by omega
    subst this
    rw [if_pos (by decide), ob1_e]; rfl
theorem c_addS {S : Nat} {i1 i2 : Int32} (h2 : τ 2 0 = nI S) (hS : S < 6) : mX0_addStock F τ i1 i2 = some (asF τ S i1 i2) := by
  unfold mX0_addStock
  rw [c_roomS h2 (by omega), ob1_e, show decide (S < 6) = true from decide_eq_true hS, if_neg (show ¬ b01 true = 0 by decide), h2, wra_at hS (by decide), ob1_e]
  simp only [u2_at, Nat.reduceEqDiff, false_and, if_false, h2]
  rw [wra_at hS (by decide), ob1_e, ob1_e, ob1_e]
  simp only [u2_at, Nat.reduceEqDiff, false_and, if_false, h2, nI_s]
  rfl
theorem SF.addS (h : SF τ) {S : Nat} {i1 i2 : Int32} (hS : S < 6) : SF (asF τ S i1 i2) := by
  have e2 : asF τ S i1 i2 2 0 = nI (S + 1) := by unfold asF; simp [pf_at]
  have e5 : asF τ S i1 i2 5 0 = τ 5 0 := by unfold asF; simp [u2_at, pf_at]
  have e10 : asF τ S i1 i2 10 0 = τ 10 0 := by unfold asF; simp [u2_at, pf_at]
  unfold SF
  rw [e2, e5, e10]
  exact ⟨⟨S + 1, rfl, by omega⟩, h.2⟩
theorem X0.addS {f5 f6 o i1 i2 : Int32} {d d' : FS} (h : X0 τ f5 f6 d o) (hS : Sn τ < 6) (hd : ∀ x, x ≠ 1 → x ≠ 7 + 2 * Sn τ → x ≠ 8 + 2 * Sn τ → d' x = d x) (e0 : d' (7 + 2 * Sn τ) = i1) (e1 : d' (8 + 2 * Sn τ) = i2) (e4 : d' 1 = nI (Sn τ + 1)) (hb : bd i1 0 9999) : X0 (asF τ (Sn τ) i1 i2) f5 f6 d' o := by
  obtain ⟨⟨b1, b2, b3, b4, b5, b6, b7, b8, b9, b10, b11⟩, x1, J, x2, x3, x4, x5, x6, x7⟩ := h
  have hN := b2.2
  have hn : ∀ c x, c ≠ 2 → ¬ ((c = 3 ∨ c = 4) ∧ x = Sn τ) → asF τ (Sn τ) i1 i2 c x = τ c x := fun c x q1 q2 => by
    unfold asF
    rw [pf_n _ _ _ _ _ q1, u2_n _ _ _ _ _ _ (by omega), u2_n _ _ _ _ _ _ (by omega)]
  have n2 : asF τ (Sn τ) i1 i2 2 0 = nI (Sn τ + 1) := by unfold asF; simp [pf_at]
  have n3 : asF τ (Sn τ) i1 i2 3 (Sn τ) = i1 := by unfold asF; simp [u2_at, pf_at]
  have n4 : asF τ (Sn τ) i1 i2 4 (Sn τ) = i2 := by unfold asF; simp [u2_at, pf_at]
  generalize asF τ (Sn τ) i1 i2 = τ' at hn n2 n3 n4 ⊢
  have hNn : Nn τ' = Nn τ := by unfold Nn; rw [hn 10 0 (by decide) (by omega)]
  have hSn : Sn τ' = Sn τ + 1 := by rw [show Sn τ' = nv (τ' 2 0) from rfl, n2, nv_nI (by omega)]
  have hp : prevE τ' J = prevE τ J := prevE.same (fun j hj => hn 9 j (by decide) (by omega))
  refine ⟨⟨⟨by rw [hSn]; exact n2, by omega⟩, by rw [hNn, hn 10 0 (by decide) (by omega)]; exact b2, by rw [hd _ (by omega) (by omega) (by omega)]; exact b3, by rw [hd _ (by omega) (by omega) (by omega)]; exact b4, by rw [e4, n2], by rw [hd _ (by omega) (by omega) (by omega), hn 10 0 (by decide) (by omega)]; exact b6, by rw [hd _ (by omega) (by omega) (by omega), hn 0 0 (by decide) (by omega)]; exact b7, by rw [hd _ (by omega) (by omega) (by omega), hn 1 0 (by decide) (by omega)]; exact b8, by rw [hn 1 0 (by decide) (by omega)]; exact b9, fun k hk => ?_, fun s hs => ?_⟩, x1, J, by rw [hn 5 0 (by decide) (by omega)]; exact x2, x3, by rw [hd _ (by omega) (by omega) (by omega)]; exact x4, ?_, fun j a c => by rw [hd _ (by omega) (by omega) (by omega)]; exact x6 j a c, by rw [hp, hNn]; exact x7⟩
  · rw [hSn] at hk
    by_cases q : k = Sn τ
    · subst q
      exact ⟨by rw [e0, n3], by rw [e1, n4], by rw [n3]; exact hb⟩
    · exact (b10 k (by omega)).same (hn 3 k (by decide) (by omega)) (hn 4 k (by decide) (by omega)) (fun x a b => hd x (by omega) (by omega) (by omega))
  · rw [hNn] at hs
    obtain ⟨p1, p2⟩ := b11 s hs
    exact ⟨p1.same (fun c c1 c2 => hn c s (by omega) (by omega)) (fun x a b => hd x (by omega) (by omega) (by omega)), p2.same (fun c c1 c2 => hn c s (by omega) (by omega)) (by omega)⟩
  · exact x5.same (fun c j hj c1 c2 => hn c j (by omega) (by omega)) (fun s hs => hn 11 s (by decide) (by omega)) (by rw [hNn]; exact Nat.le_refl _) (fun j x hj a b => hd x (by omega) (by omega) (by omega))
theorem PR.stock (hF : 5000 ≤ F) (hB : BT β T L) (hcm : Cm T L ν τ ρ μ) (h1 : ρ 1 0 = 0) (hg : μ 5 0 = 0) (h2 : ρ 2 0 = μ 6 0) (hX : X0 τ (ρ 5 0) (ρ 6 0) (μ 9) (μ 14 0)) (hn : ok (mX1_nextToken F β τ ρ) (fun ρ' => PR T L ν X0 b τ ρ' μ)) : ∃ τ' ρ' μ', mX1_readStock F β τ ρ = some (τ', ρ') ∧ mX4_readStock F μ (ρ 8 0) = some μ' ∧ PR T L ν X0 b τ' ρ' μ' := by
  have hs := hcm.2.1
  obtain ⟨⟨b1, b2, b3, b4, b5, b6, b7, b8, b9, b10, b11⟩, x1, J, x2, x3, x4, -⟩ := id hX
  have hS6 := b1.2
  unfold mX1_readStock mX4_readStock
  rw [c_roomS b1.1 b1.2, ob1_e, rG1, b5, b1.1, ob1_e]
  by_cases hS : Sn τ < 6
  · have hne : ¬ nI (Sn τ) = (6 : Int32) := fun q => by have := (nI_i (b := 6) (by omega) (by decide)).mp q; omega
    obtain ⟨ρ4, n1, n2⟩ := hn
    obtain ⟨r5, ρ6, r7', μ8, k1, k2, k3, k4⟩ := n2.num (F := F) hF hB 0 9999
    obtain ⟨r7, ρ8, r9', μ10, l1, l2, l3, l4⟩ := k3.num (F := F) hF hB 1 9
    rw [show decide (Sn τ < 6) = true from decide_eq_true hS, if_neg (show ¬ b01 true = 0 by decide), n1, ob1_e, k1, ob2_e, l1, ob2_e, c_addS b1.1 hS, ob1_e, if_neg hne, ob1_e, k2, ob2_e, l2, ob2_e, m_good, ob1_e]
    by_cases hg10 : μ10 5 0 = 0
    · obtain ⟨rfl, -, -, -⟩ := l4 hg10
      obtain ⟨rfl, q1, q2, -⟩ := k4 (gb_num l2 hg10)
      have hX9 := (l3.2.2.2 hg10).2
      have d1 : μ10 9 1 = nI (Sn τ) := by rw [hX9.1.2.2.2.2.1]; exact b1.1
      have c1 : ∀ (μ : MS) (x : Nat) (v : Int32) (y : Nat), y ≠ x → u2 μ 9 x v 9 y = μ 9 y := fun μ x v y h => u2_n _ _ _ _ _ _ (by omega)
      rw [ltI, show (0 : Int32).toInt = 0 from rfl] at q1
      rw [ltI, show (9999 : Int32).toInt = 9999 from rfl] at q2
      rw [show decide (μ10 5 0 = 0) = true from decide_eq_true hg10, if_neg (show ¬ b01 true = 0 by decide), rG1, d1, ob1_e, v9K0 hS, ob1_e, rG1, c1 _ _ _ _ (by omega), d1, ob1_e, v9K1 hS, ob1_e, rG1, c1 _ _ _ _ (by omega), c1 _ _ _ _ (by omega), d1, ob1_e, v9G1, ob1_e, nI_s]
      refine ⟨_, ρ8, _, rfl, rfl, l3.row (hs.addS hS) (fun q hq => by repeat rw [u2_o _ _ _ _ _ hq]) (fun _ hx => hx.addS hS (fun x q1 q2 q3 => ?_) ?_ ?_ ?_ ⟨by omega, by omega⟩)⟩
      · rw [c1 _ _ _ _ q1, c1 _ _ _ _ q3, c1 _ _ _ _ q2]
      · rw [c1 _ _ _ _ (by omega), c1 _ _ _ _ (by omega), u2_s]
      · rw [c1 _ _ _ _ (by omega), u2_s]
      · rw [u2_s]
    · rw [show decide (μ10 5 0 = 0) = false from decide_eq_false hg10, if_pos (show b01 false = 0 from rfl)]
      exact ⟨_, ρ8, μ10, rfl, rfl, l3.tau (hs.addS hS) (fun q => absurd q hg10)⟩
  · have hS6' : Sn τ = 6 := by omega
    obtain ⟨ρ', μ', f1, f2, f3, f4⟩ := hcm.fail (F := F) (β := β) (h1.trans hg.symm) h2 (e := -4) (o := ρ 8 0) (o' := ρ 8 0) (by decide) (fun _ => rfl) X0 b
    rw [show decide (Sn τ < 6) = false from decide_eq_false hS, if_pos (show b01 false = 0 from rfl), f1, ob1_e, if_pos (show nI (Sn τ) = (6 : Int32) by rw [hS6']; rfl), f2, ob1_e, ob1_e, m_numF f4, ob2_e, m_numF f4, ob2_e, m_goodF f4, ob1_e, if_pos rfl]
    exact ⟨τ, ρ', μ', rfl, rfl, f3⟩
theorem flg_bit : ∀ a b k : Fin 2, (((nI (a.val + 2 * b.val) >>> (nI k.val &&& 31)) &&& (1 : Int32)) = 1) ↔ (if k.val = 0 then a.val else b.val) = 1 := by decide +kernel
theorem flg_set : ∀ a b k : Fin 2, (nI (a.val + 2 * b.val) ||| ((1 : Int32) <<< (nI k.val &&& 31))) = nI ((if k.val = 0 then 1 else a.val) + 2 * (if k.val = 0 then b.val else 1)) := by decide +kernel
/-- wait (k = 0) and patience (k = 1) -/
theorem PR.told (hF : 5000 ≤ F) (hB : BT β T L) {k : Nat} (hk : k < 2) {H : Int32} (hH : k = 1 → H = 9) (hcm : Cm T L ν τ ρ μ) (h1 : ρ 1 0 = 0) (hg : μ 5 0 = 0) (h2 : ρ 2 0 = μ 6 0) (hX : X0 τ (ρ 5 0) (ρ 6 0) (μ 9) (μ 14 0)) (hp : ∃ p, p ≤ L ∧ TK T L p ρ ∧ b ≤ p ∧ μ 4 0 = nI (te T L p)) : ∃ μ', (ob1 (mX4_once F μ (nI k) (ρ 8 0)) fun μ27 => ob2 (mX4_number F μ27 (1 : Int32) H) fun r28 μ29 => ob1 (wra μ29 9 451 (nI (4 + k)) r28) fun μ30 => some μ30) = some μ' ∧ (ρ (5 + k) 0 = 0 → ∃ τ' ρ', (ob1 (mX1_nextToken F β τ (pf ρ (5 + k) 1)) fun ρ30 => ob2 (mX1_readNumber F β τ ρ30 (1 : Int32) H) fun r31 ρ32 => ob1 (some (pf τ k r31)) fun τ33 => some (τ33, ρ32)) = some (τ', ρ') ∧ PR T L ν X0 b τ' ρ' μ') ∧ (ρ (5 + k) 0 ≠ 0 → ∃ ρ', mX1_fail F β τ ρ (-2 : Int32) (ρ 8 0) = some ρ' ∧ PR T L ν X0 b τ ρ' μ') := by
  have hL := hB.1
  have hs := hcm.2.1
  obtain ⟨p, p1, p2, p3, p4⟩ := hp
  have hte := te_le (T := T) hL p1
  obtain ⟨a, bb, ha, hb, f5, f6, fo⟩ := id hX.2.1
  have hbit := flg_bit ⟨a, by omega⟩ ⟨bb, by omega⟩ ⟨k, hk⟩
  have hset := flg_set ⟨a, by omega⟩ ⟨bb, by omega⟩ ⟨k, hk⟩
  have hsl : ρ (5 + k) 0 = nI (if k = 0 then a else bb) := by
    rcases (show k = 0 ∨ k = 1 by omega) with rfl | rfl
    · exact f5
    · exact f6
  have h01 : (if k = 0 then a else bb) ≤ 1 := by split <;> omega
  have hz : ∀ q, q ≠ 14 → ∀ v, pf μ 14 v q = μ q := fun q hq v => by funext x; rw [pf_n _ _ _ _ _ hq]
  by_cases hb1 : (if k = 0 then a else bb) = 1
  · -- told before
    obtain ⟨ρ', μ', e1, e2, e3, e4⟩ := hcm.fail (F := F) (β := β) (h1.trans hg.symm) h2 (e := -2) (o := ρ 8 0) (o' := ρ 8 0) (by decide) (fun _ => rfl) X0 b
    have hz' : ∀ q, q ≠ 14 → ∀ v, pf μ' 14 v q = μ' q := fun q hq v => by funext x; rw [pf_n _ _ _ _ _ hq]
    have hg' : ∀ v, pf μ' 14 v 5 0 ≠ 0 := fun v => by rw [hz' 5 (by decide)]; exact e4
    have hidx : ∀ (μ9 : MS) (v : Int32), wra μ9 9 451 (nI (4 + k)) v = some (u2 μ9 9 (4 + k) v) := fun μ9 v => wrn rfl (by omega) (by decide)
    refine ⟨u2 (pf μ' 14 (μ' 14 0 ||| ((1 : Int32) <<< (nI k &&& 31)))) 9 (4 + k) 0, ?_, fun q => ?_, fun _ => ⟨ρ', e1, ?_⟩⟩
    · unfold mX4_once
      rw [fo, if_pos (hbit.mpr hb1), e2, ob1_e, ob1_e, ob1_e, ob1_e, m_numF (hg' _), ob2_e, hidx, ob1_e]
    · rw [hsl, hb1] at q; exact absurd q (by decide)
    · obtain ⟨⟨c1, c2, c3, c4⟩, c5, c6, c, cc, c7⟩ := e3.1
      refine ⟨⟨⟨c1, ?_, ?_, fun q q1 q2 q3 q4 q5 q6 => ?_⟩, c5, c6, c, cc, ?_⟩, ?_, ?_, fun q => ?_⟩
      · rw [u2_o _ _ _ _ 3 (by decide), hz' 3 (by decide)]; exact c2
      · rw [u2_o _ _ _ _ 1 (by decide), hz' 1 (by decide)]; exact c3
      · rw [u2_o _ _ _ _ q q4, hz' q q6]; exact c4 q q1 q2 q3 q4 q5 q6
      · rw [u2_o _ _ _ _ 4 (by decide), hz' 4 (by decide)]; exact c7
      · rw [u2_o _ _ _ _ 5 (by decide), hz' 5 (by decide)]; exact e3.2.1
      · rw [u2_o _ _ _ _ 6 (by decide), hz' 6 (by decide)]; exact e3.2.2.1
      · rw [u2_o _ _ _ _ 5 (by decide), hz' 5 (by decide)] at q; exact absurd q e4
  · have hb0 : (if k = 0 then a else bb) = 0 := by omega
    have ho : mX4_once F μ (nI k) (ρ 8 0) = some (pf μ 14 (μ 14 0 ||| ((1 : Int32) <<< (nI k &&& 31)))) := by
      unfold mX4_once
      rw [fo, if_neg (fun q => hb1 (hbit.mp q)), ob1_e, ob1_e, fo]
    have hc29 : pf ρ (5 + k) 1 4 0 = nI L := by rw [pf_n _ _ _ _ _ (by omega)]; exact hcm.1.1
    have ht29 : TK T L p (pf ρ (5 + k) 1) := p2.same (fun q hq => by funext x; rw [pf_n _ _ _ _ _ (by omega)])
    obtain ⟨ρ30, m1, m2, m3, m4⟩ := PR.adv (F := F) (τ := τ) hF hB hc29 p1 ht29
    obtain ⟨⟨c1, c2, c3, c4⟩, c5, c6, c, cc, c7⟩ := id hcm
    have hpr : PR T L ν X0 b τ ρ30 (pf μ 14 (μ 14 0 ||| ((1 : Int32) <<< (nI k &&& 31)))) := by
      refine ⟨⟨⟨by rw [m4 4 (by decide)]; exact hc29, by rw [hz 3 (by decide)]; exact c2, by rw [hz 1 (by decide)]; exact c3, fun q q1 q2 q3 q4 q5 q6 => by rw [hz q q6]; exact c4 q q1 q2 q3 q4 q5 q6⟩, c5, ⟨_, m3, m2⟩, c, cc, by rw [hz 4 (by decide)]; exact c7⟩, ?_, ?_, fun _ => ⟨⟨_, _, m3, m2, hte, by rw [hz 4 (by decide)]; exact p4, rfl, ?_⟩, ?_⟩⟩
      · rw [m4 1 (by decide), pf_n _ _ _ _ _ (by omega), hz 5 (by decide)]; exact h1.trans hg.symm
      · rw [m4 2 (by decide), pf_n _ _ _ _ _ (by omega), hz 6 (by decide)]; exact h2
      · have := sk_ge (T := T) (L := L) (te T L p)
        have := te_ge (T := T) (L := L) (p := p)
        omega
      · rw [hz 9 (by decide), m4 5 (by decide), m4 6 (by decide), pf_at μ 14, if_pos rfl]
        refine ⟨hX.1, ?_, hX.2.2⟩
        rcases (show k = 0 ∨ k = 1 by omega) with rfl | rfl
        · exact ⟨1, bb, by omega, hb, by rw [pf_at, if_pos rfl]; rfl, by rw [pf_n _ _ _ _ _ (by decide)]; exact f6, by rw [fo]; exact hset⟩
        · exact ⟨a, 1, ha, by omega, by rw [pf_n _ _ _ _ _ (by decide)]; exact f5, by rw [pf_at, if_pos rfl]; rfl, by rw [fo]; exact hset⟩
    obtain ⟨r31, ρ32, r28, μ29, k1, k2, k3, k4⟩ := hpr.num (F := F) hF hB 1 H
    have hidx : ∀ (μ9 : MS) (v : Int32), wra μ9 9 451 (nI (4 + k)) v = some (u2 μ9 9 (4 + k) v) := fun μ9 v => wrn rfl (by omega) (by decide)
    refine ⟨u2 μ29 9 (4 + k) r28, ?_, fun _ => ⟨pf τ k r31, ρ32, ?_, ?_⟩, fun q => ?_⟩
    · rw [ho, ob1_e, k2, ob2_e, hidx, ob1_e]
    · rw [m1, ob1_e, k1, ob2_e, ob1_e]
    · have et : ∀ c x, c ≠ k → pf τ k r31 c x = τ c x := fun c x hc => pf_n _ _ _ _ _ hc
      refine k3.row ?_ (fun q hq => u2_o _ _ _ _ _ hq) (fun hg29 hx => ?_)
      · unfold SF
        rw [et 2 0 (by omega), et 5 0 (by omega), et 10 0 (by omega)]
        exact hs
      · obtain ⟨rfl, q1, q2, -⟩ := k4 hg29
        have ed : ∀ y, y ≠ 4 + k → u2 μ29 9 (4 + k) r31 9 y = μ29 9 y := fun y hy => u2_n _ _ _ _ _ _ (by omega)
        obtain ⟨⟨b1, b2, b3, b4, b5, b6, b7, b8, b9, b10, b11⟩, x1, J, x2, x3, x4, x5, x6, x7⟩ := hx
        have hNn : Nn (pf τ k r31) = Nn τ := by unfold Nn; rw [et 10 0 (by omega)]
        have hSn : Sn (pf τ k r31) = Sn τ := by unfold Sn; rw [et 2 0 (by omega)]
        have hpE : prevE (pf τ k r31) J = prevE τ J := prevE.same (fun j hj => et 9 j (by omega))
        have hS6 := b1.2
        refine ⟨⟨by rw [hSn, et 2 0 (by omega)]; exact b1, by rw [hNn, et 10 0 (by omega)]; exact b2, by rw [ed _ (by omega)]; exact b3, by rw [ed _ (by omega)]; exact b4, by rw [ed _ (by omega), et 2 0 (by omega)]; exact b5, by rw [ed _ (by omega), et 10 0 (by omega)]; exact b6, ?_, ?_, ?_, fun s hs => ?_, fun s hs => ?_⟩, x1, J, by rw [et 5 0 (by omega)]; exact x2, x3, by rw [ed _ (by omega)]; exact x4, x5.same (fun c j hj c1 c2 => et c j (by omega)) (fun s hs => et 11 s (by omega)) (by rw [hNn]; exact Nat.le_refl _) (fun j x hj a b => ed x (by omega)), fun j a c => by rw [ed _ (by omega)]; exact x6 j a c, by rw [hpE, hNn]; exact x7⟩
        · rcases (show k = 0 ∨ k = 1 by omega) with rfl | rfl
          · rw [u2_s, pf_at, if_pos rfl]
          · rw [ed _ (by omega), et 0 0 (by omega)]; exact b7
        · rcases (show k = 0 ∨ k = 1 by omega) with rfl | rfl
          · rw [ed _ (by omega), et 1 0 (by omega)]; exact b8
          · rw [u2_s, pf_at, if_pos rfl]
        · rcases (show k = 0 ∨ k = 1 by omega) with rfl | rfl
          · rw [et 1 0 (by omega)]; exact b9
          · rw [hH rfl] at q2
            rw [ltI, show (1 : Int32).toInt = 1 from rfl] at q1
            rw [ltI, show (9 : Int32).toInt = 9 from rfl] at q2
            rw [pf_at, if_pos rfl]
            exact ⟨by omega, by omega⟩
        · rw [hSn] at hs
          exact (b10 s hs).same (et 3 s (by omega)) (et 4 s (by omega)) (fun x a b => ed x (by omega))
        · rw [hNn] at hs
          obtain ⟨p1, p2⟩ := b11 s hs
          exact ⟨p1.same (fun c c1 c2 => et c s (by omega)) (fun x a b => ed x (by omega)), p2.same (fun c c1 c2 => et c s (by omega)) (by rw [hSn]; exact Nat.le_refl _)⟩
    · rw [hsl, hb0] at q; exact absurd rfl q
end RD
