/-! pure: the law's tick does to its world what the class's does -/
/-- no step's repeats are below 0 -/
def RI (τ σ : MS) : Prop := ∀ s, s < Nn τ → 0 ≤ (σ 11 s).toInt
theorem RI.up {τ σ : MS} {c i : Nat} {v : Int32} (h : RI τ σ) (hc : c ≠ 11) : RI τ (u2 σ c i v) := fun s hs => by rw [u2_n _ _ _ _ _ _ (by omega)]; exact h s hs
theorem RI.p {τ σ : MS} {c : Nat} {v : Int32} (h : RI τ σ) (hc : c ≠ 11) : RI τ (pf σ c v) := fun s hs => by rw [pf_n _ _ _ _ _ (by omega)]; exact h s hs
section RIs
variable {τ σ : MS} {j s : Nat} {p v : Int32} {w : Nat → Int32}
theorem RI.take (h : RI τ σ) (hs : s < Nn τ) {k : Nat} : RI τ (takeF τ s k σ) := by
  unfold takeF
  split
  · split
    · exact (h.up (by decide)).up (by decide)
    · next h2 =>
      intro t ht
      rw [u2_at]
      split
      · next q =>
        have h0 := h s hs
        have e1 : (1 : Int32).toInt = 1 := rfl
        rw [leI, show (0 : Int32).toInt = 0 from rfl] at h2
        have := Int32.toInt_lt (σ 11 s)
        rw [sI (by omega) (by omega)]
        omega
      · exact (h.up (by decide)) t ht
  · exact ((h.up (by decide)).up (by decide)).up (by decide)
theorem RI.step (h : RI τ σ) (hs : s < Nn τ) : RI τ (stepF τ j s σ) := by
  unfold stepF
  split
  · split
    · exact h
    · exact h.up (by decide)
  · split
    · split
      · split
        · exact h.up (by decide)
        · exact h.up (by decide)
      · exact h.take hs
    · exact h
theorem RI.mv (h : RI τ σ) (hs : s < Nn τ) : RI τ (mvF τ j s σ) := by
  unfold mvF
  split
  · exact h.step hs
  · exact h
theorem RI.wd (h : RI τ σ) : RI τ (wdF τ j s σ) := by
  unfold wdF
  split
  · exact h.up (by decide)
  · exact h
theorem RI.rdy (h : RI τ σ) : RI τ (rdyF τ j s σ) := by
  unfold rdyF
  split
  · exact (h.up (by decide)).up (by decide)
  · exact h
theorem RI.fold {g : Nat → MS → MS} {a n : Nat} (h : RI τ σ) (hg : ∀ s x, a ≤ s → s < a + n → RI τ x → RI τ (g s x)) : RI τ (fo g a n σ) := fo_ind (fun _ x => RI τ x) h (fun s x h1 h2 hx => hg s x h1 h2 hx)
theorem RI.rest (h : RI τ σ) : RI τ (restF j v σ) := (h.up (by decide)).up (by decide)
theorem RI.ent (h : RI τ σ) : RI τ (entF τ j p σ) := by
  unfold entF
  split
  · exact (h.up (by decide)).fold (fun s x _ _ hx => hx.rdy)
  · exact h.rest
theorem RI.mvs (hI : SI τ) (hj : j < Jn τ) (h : RI τ σ) {n : Nat} (hn : n ≤ En τ j - An τ j) : RI τ (fo (mvF τ j) (An τ j) n σ) := h.fold (fun s x h1 h2 hx => hx.mv (hI.sN (j := j) hj (by omega)))
theorem RI.wds (h : RI τ σ) {n : Nat} : RI τ (fo (wdF τ j) (An τ j) n σ) := h.fold (fun s x _ _ hx => hx.wd)
theorem RI.fin (h : RI τ σ) {f : Bool} : RI τ (endF τ j f σ) := by
  unfold endF
  split
  · exact h.ent
  · split
    · exact (h.up (by decide)).up (by decide)
    · exact h
theorem RI.move (hI : SI τ) (hj : j < Jn τ) (h : RI τ σ) : RI τ (moveF τ j σ) := by
  have h1 := RI.mvs (n := En τ j - An τ j) hI hj h (Nat.le_refl _)
  unfold moveF
  refine RI.fin ?_
  split
  · exact RI.wds h1
  · exact h1
theorem RI.uf (h : RI τ σ) : RI τ (ufF j s σ) := ((h.up (by decide)).p (by decide)).up (by decide)
theorem RI.putd (h : RI τ σ) : RI τ (putF τ j s v σ) := by
  unfold putF
  split
  · exact ((h.up (by decide)).up (by decide)).up (by decide)
  · exact (h.up (by decide)).up (by decide)
theorem RI.undo (h : RI τ σ) : RI τ (undoF τ j σ) := by
  unfold undoF
  split
  · exact h.rest
  · split
    · exact h.putd
    · split
      · exact h.uf
      · exact h.uf.rest
end RIs
theorem RI_1 {τ σ : MS} {j : Nat} (h : RI τ σ) : RI τ (ph1 τ j σ) := by
  unfold ph1
  split
  · exact h
  · split
    · exact (h.up (by decide)).ent
    · exact h
theorem RI_2 {τ σ : MS} {j : Nat} (hI : SI τ) (hj : j < Jn τ) (h : RI τ σ) : RI τ (ph2 τ j σ) := by
  unfold ph2
  split
  · exact h.move hI hj
  · exact h
theorem RI_3 {τ σ : MS} {j : Nat} {w : Nat → Int32} (h : RI τ σ) : RI τ (ph3 τ w j σ) := by
  unfold ph3
  split
  · exact h.undo
  · exact h
theorem RI_f1 {τ σ : MS} {k : Nat} (h : RI τ σ) : RI τ (fo (ph1 τ) 0 k σ) := h.fold (fun s x _ _ hx => RI_1 hx)
theorem RI_f2 {τ σ : MS} {k : Nat} (hI : SI τ) (hk : k ≤ Jn τ) (h : RI τ σ) : RI τ (fo (ph2 τ) 0 k σ) := h.fold (fun s x _ _ hx => RI_2 hI (by omega) hx)
theorem RI_f3 {τ σ : MS} {k : Nat} {w : Nat → Int32} (h : RI τ σ) : RI τ (fo (ph3 τ w) 0 k σ) := h.fold (fun s x _ _ hx => RI_3 hx)
theorem RI_tick {τ σ : MS} (hI : SI τ) (h : RI τ σ) : RI τ (tickF τ σ) := by
  unfold tickF ph123
  exact RI.p (RI_f3 (RI_f2 hI (Nat.le_refl _) (RI_f1 h))) (by decide)
theorem u3_up (Ψ : WS) (ψ : MS) (j i c : Nat) (v : Int32) : u3 (va_up Ψ j ψ) j i c v = va_up Ψ j (u2 ψ i c v) := by
  unfold u3
  rw [va_uu, va_up_self]
theorem va_id {α : Type} (f : Nat → α) (k : Nat) : va_up f k (f k) = f := by
  funext q
  by_cases h : q = k
  · subst h; rw [va_up_self]
  · rw [va_up_ne _ _ h]
section LT
variable {τ σ ζ κ : MS} {Φ Ψ : WS} {F s j i k : Nat} {p v : Int32} {Ns : PA} {B : Int}
theorem l_begins (hI : SI τ) (hN : NR τ Ns) (hB : B ≤ 2147480000) (h : LW τ σ ζ κ Φ Ψ) (hV : LV B τ σ) (hR : RI τ σ) (hj : j < Jn τ) (hi : An τ j + i < En τ j) (h51 : σ 5 j = 1) (h9 : σ 9 (An τ j + i) = 1) (hF : 5000 ≤ F) : ok (mX6_begins F (Sn τ) (Jn τ) Ns ζ κ Φ Ψ j i) (fun r => LW τ (stepF τ j (An τ j + i) σ) ζ r.1 Φ r.2) := by
  have hsN := hI.sN hj hi
  have hS6 := hI.S.2
  obtain ⟨a1, a2, a3, a4, a5, a6, a7, a8, a9, a10⟩ := h.ls hj hi
  have hK := hI.K hsN
  obtain ⟨k1, k2⟩ := h.lk hK.2.1
  have hv := hV (Kn τ (An τ j + i)) hK.2.1
  have ha := hK.2.2.1
  have hr0 := hR _ hsN
  obtain ⟨v1, v2⟩ := hv
  obtain ⟨b1, b2⟩ := ha
  have he : ended σ j = false := by unfold ended; rw [h51]; decide
  have hhold := ll_holds (F := F) (k := nI (Kn τ (An τ j + i))) hI (h.lj hj) (h.lt hj) hj hF
  have hhs := l_holders (F := F) (k := nI (Kn τ (An τ j + i))) hI hN h hF
  unfold mX6_begins stepF
  rw [gLt_t hj, ob1_e, gLt_t (show i < Ns j by rw [hN j hj]; omega), ob1_e]
  simp only [rq_1, rq_2, rq_6, rq_8, rk_0, rk_1, wq_4, wq_6, wq_8, wk_0, ob1_e]
  rw [a2, hK.1, hixn_at hK.2.1 (by omega), ob1_e, hN j hj, hhold, ob1_e, hhs, ob1_e, k1, k2, a3, a7, a10 h9, h.lg.1, h.lg.2.1]
  rw [if_neg (show ¬ σ 9 (An τ j + i) = 2 by rw [h9]; decide), if_pos h9, he]
  have hnot : ok (if σ 3 (Kn τ (An τ j + i)) < τ 13 (An τ j + i) then ob1 (if σ 11 (An τ j + i) = 0 then some (va_up Ψ j (u2 (Ψ j) i 4 4)) else some (va_up Ψ j (u2 (Ψ j) i 6 (σ 11 (An τ j + i) - 1)))) fun Ψ27 => some (κ, Ψ27) else some (u2 κ (Kn τ (An τ j + i)) 0 (σ 3 (Kn τ (An τ j + i)) - τ 13 (An τ j + i)), va_up (va_up Ψ j (u2 (Ψ j) i 4 2)) j (u2 (va_up Ψ j (u2 (Ψ j) i 4 2) j) i 8 (σ 1 0)))) (fun r => LW τ (takeF τ (An τ j + i) (Kn τ (An τ j + i)) σ) ζ r.1 Φ r.2) := by
    unfold takeF
    by_cases h4 : σ 3 (Kn τ (An τ j + i)) < τ 13 (An τ j + i)
    · have h5 : 0 < τ 13 (An τ j + i) - σ 3 (Kn τ (An τ j + i)) := by
        rw [ltI, sI (by omega) (by omega), show (0 : Int32).toInt = 0 from rfl]
        rw [ltI] at h4; omega
      rw [if_pos h4, if_pos h5]
      have hz : σ 11 (An τ j + i) = 0 ↔ σ 11 (An τ j + i) ≤ 0 := by
        have e0 : (0 : Int32).toInt = 0 := rfl
        rw [eqI, leI, e0]; omega
      by_cases h6 : σ 11 (An τ j + i) ≤ 0
      · rw [if_pos (hz.mpr h6), if_pos h6, ob1_e]
        exact ok_some (h.lack.state hI hj hi (by decide) (by decide))
      · rw [if_neg (fun q => h6 (hz.mp q)), if_neg h6, ob1_e]
        exact ok_some (h.lack.rep hI hj hi)
    · have h5 : ¬ 0 < τ 13 (An τ j + i) - σ 3 (Kn τ (An τ j + i)) := by
        rw [ltI, sI (by omega) (by omega), show (0 : Int32).toInt = 0 from rfl]
        rw [ltI] at h4; omega
      rw [if_neg h4, if_neg h5]
      exact ok_some ((h.level hK.2.1).runs hI hj hi)
  cases hh : hold τ σ j (nI (Kn τ (An τ j + i))) with
  | true =>
    have e9 : ∀ X T : MS, (if (true = false ∧ ¬ holders τ σ (nI (Kn τ (An τ j + i))) < τ 4 (Kn τ (An τ j + i))) then X else T) = T := fun _ _ => if_neg (by simp)
    rw [if_neg (show ¬ b01 (!false && true) = 0 by decide), ob1_e, cnd_F, e9]
    exact hnot
  | false =>
    rw [if_pos (show b01 (!false && false) = 0 by decide)]
    by_cases h4 : holders τ σ (nI (Kn τ (An τ j + i))) < τ 4 (Kn τ (An τ j + i))
    · have e9 : ∀ X T : MS, (if (false = false ∧ ¬ holders τ σ (nI (Kn τ (An τ j + i))) < τ 4 (Kn τ (An τ j + i))) then X else T) = T := fun _ _ => if_neg (by simp [h4])
      rw [if_pos h4, ob1_e, cnd_F, e9]
      exact hnot
    · have e9 : ∀ X T : MS, (if (false = false ∧ ¬ holders τ σ (nI (Kn τ (An τ j + i))) < τ 4 (Kn τ (An τ j + i))) then X else T) = X := fun _ _ => if_pos ⟨rfl, h4⟩
      rw [if_neg h4, ob1_e, cnd_T, e9]
      by_cases h5 : σ 13 (An τ j + i) < τ 0 0
      · rw [if_pos h5, if_pos h5, ob1_e, a10 h9]
        exact ok_some (h.wait hI hj hi h9)
      · rw [if_neg h5, if_neg h5, ob1_e]
        exact ok_some (h.failw hI hj hi)
theorem l_moves (hI : SI τ) (hN : NR τ Ns) (hB : B ≤ 2147480000) (h : LW τ σ ζ κ Φ Ψ) (hi : Inv B τ j σ σ) (hR : RI τ σ) (hj : j < Jn τ) (h1 : σ 5 j = 1) (hp : σ 6 j = p) (hF : 5000 ≤ F) : ok (loopM (fun st : Int32 × MS × WS => mX6_goes_L17 F (Sn τ) (Jn τ) Ns (nI (En τ j - An τ j)) j p ζ Φ st.1 st.2.1 st.2.2) F ((0 : Int32), κ, Ψ)) (fun r => LW τ (mvsF τ j σ) ζ r.1 Φ r.2) := by
  have hA := hI.A hj
  have hNN := hI.N.2
  refine loop_rel (f := fun st : Int32 × MS × WS => mX6_goes_L17 F (Sn τ) (Jn τ) Ns (nI (En τ j - An τ j)) j p ζ Φ st.1 st.2.1 st.2.2) (fun k x => LW τ (fo (mvF τ j) (An τ j) k σ) ζ x.1 Φ x.2) (En τ j - An τ j) (fun k x hk h => ?_) (fun x h => ?_) (En τ j - An τ j) 0 F (κ, Ψ) (by omega) (by omega) h
  · obtain ⟨κ1, Ψ1⟩ := x
    show ok (mX6_goes_L17 F (Sn τ) (Jn τ) Ns (nI (En τ j - An τ j)) j p ζ Φ (nI k) κ1 Ψ1) _
    have h : LW τ (fo (mvF τ j) (An τ j) k σ) ζ κ1 Φ Ψ1 := h
    have hinv := hi.fo (g := mvF τ j) (fun s x a b c => c.mv hI hj hB a b) k (by omega)
    have hR1 := RI.mvs (n := k) hI hj hR (by omega)
    have e5 : fo (mvF τ j) (An τ j) k σ 5 j = 1 := (hinv.2.2.2.2 5 (by decide) (by decide)).trans h1
    have e6 : fo (mvF τ j) (An τ j) k σ 6 j = p := (hinv.2.2.2.2 6 (by decide) (by decide)).trans hp
    have e : fo (mvF τ j) (An τ j) (k + 1) σ = mvF τ j (An τ j + k) (fo (mvF τ j) (An τ j) k σ) := fo_end _ _ _ _
    rw [e]
    have hV := hinv.2.2.1
    generalize fo (mvF τ j) (An τ j) k σ = σ1 at h e5 e6 hV hR1 ⊢
    have hik : An τ j + k < En τ j := by omega
    obtain ⟨a1, a2, a3, a4, a5, a6, a7, a8, a9, a10⟩ := h.ls hj hik
    unfold mX6_goes_L17 mvF prs
    rw [if_neg (nle (by omega) (by omega) hk), hN j hj, hixn_at hk (by omega), ob1_e, rq_0, ob1_e, a1, e6]
    by_cases q1 : τ 11 (An τ j + k) = p
    · rw [if_pos q1, if_pos (decide_eq_true q1), rq_4, ob1_e, a5]
      by_cases q2 : σ1 9 (An τ j + k) = 2
      · have hst : stepF τ j (An τ j + k) σ1 = if σ1 1 0 - σ1 12 (An τ j + k) < τ 14 (An τ j + k) then σ1 else u2 σ1 9 (An τ j + k) 3 := by unfold stepF; rw [if_pos q2]
        rw [if_pos q2, rq_8, ob1_e, rq_3, ob1_e, a9 q2, a4, h.lg.1, hst]
        by_cases q3 : σ1 1 0 - σ1 12 (An τ j + k) < τ 14 (An τ j + k)
        · rw [if_pos q3, if_pos q3, ob1_e, cnd_F, ob1_e, if_neg (by rw [q2]; decide), ob2_e, nI_s]
          exact ok_some ⟨_, rfl, h⟩
        · rw [if_neg q3, if_neg q3, ob1_e, cnd_T, wq_4, ob1_e, ob1_e, ob2_e, nI_s]
          exact ok_some ⟨_, rfl, h.state hI hj hik (by decide) (by decide)⟩
      · rw [if_neg q2, ob1_e, cnd_F, ob1_e]
        by_cases q3 : σ1 9 (An τ j + k) = 1
        · obtain ⟨⟨κ2, Ψ2⟩, e1, e2⟩ := l_begins (F := F) hI hN hB h hV hR1 hj hik e5 q3 hF
          rw [if_pos q3, e1, ob2_e, ob2_e, nI_s]
          exact ok_some ⟨_, rfl, e2⟩
        · have hst : stepF τ j (An τ j + k) σ1 = σ1 := by unfold stepF; rw [if_neg q2, if_neg q3]
          rw [if_neg q3, ob2_e, nI_s, hst]
          exact ok_some ⟨_, rfl, h⟩
    · rw [if_neg q1, if_neg (by simp [q1]), ob2_e, nI_s]
      exact ok_some ⟨_, rfl, h⟩
  · obtain ⟨κ1, Ψ1⟩ := x
    show ok (mX6_goes_L17 F (Sn τ) (Jn τ) Ns (nI (En τ j - An τ j)) j p ζ Φ (nI (En τ j - An τ j)) κ1 Ψ1) _
    unfold mX6_goes_L17
    rw [if_pos (Int32.le_refl _)]
    exact ok_some ⟨_, rfl, h⟩
theorem l_withs (hI : SI τ) (hN : NR τ Ns) (h : LW τ σ ζ κ Φ Ψ) (hj : j < Jn τ) (hp : σ 6 j = p) (f : Bool) (hF : 5000 ≤ F) : ok (loopM (fun st : Int32 × WS => mX6_goes_L124 F (Sn τ) (Jn τ) Ns (nI (En τ j - An τ j)) j (b01 f) p ζ κ Φ st.1 st.2) F ((0 : Int32), Ψ)) (fun r => LW τ (if f then withF τ j σ else σ) ζ κ Φ r) := by
  have hA := hI.A hj
  have hNN := hI.N.2
  refine loop_rel (f := fun st : Int32 × WS => mX6_goes_L124 F (Sn τ) (Jn τ) Ns (nI (En τ j - An τ j)) j (b01 f) p ζ κ Φ st.1 st.2) (fun k x => LW τ (if f then fo (wdF τ j) (An τ j) k σ else σ) ζ κ Φ x) (En τ j - An τ j) (fun k x hk h => ?_) (fun x h => ?_) (En τ j - An τ j) 0 F Ψ (by omega) (by omega) (by cases f <;> exact h)
  · show ok (mX6_goes_L124 F (Sn τ) (Jn τ) Ns (nI (En τ j - An τ j)) j (b01 f) p ζ κ Φ (nI k) x) _
    have hik : An τ j + k < En τ j := by omega
    unfold mX6_goes_L124
    rw [if_neg (nle (by omega) (by omega) hk), hN j hj, hixn_at hk (by omega), ob1_e]
    cases f with
    | false =>
      rw [if_pos (show b01 false = 0 from rfl), ob1_e, cnd_F, ob1_e, nI_s]
      exact ok_some ⟨_, rfl, h⟩
    | true =>
      have h : LW τ (fo (wdF τ j) (An τ j) k σ) ζ κ Φ x := h
      have e6 : fo (wdF τ j) (An τ j) k σ 6 j = p := (fo_keep (fun x : MS => x 6 j) (fun s x => wd_j (by decide)) k (An τ j) σ).trans hp
      have e : fo (wdF τ j) (An τ j) (k + 1) σ = wdF τ j (An τ j + k) (fo (wdF τ j) (An τ j) k σ) := fo_end _ _ _ _
      obtain ⟨a1, a2, a3, a4, a5, a6, a7, a8, a9, a10⟩ := h.ls hj hik
      rw [if_neg (show ¬ b01 true = 0 by decide), rq_0, ob1_e, a1, rq_4, ob1_e, a5]
      show ok _ (fun r => ∃ x', r = Sum.inr (nI (k + 1), x') ∧ LW τ (fo (wdF τ j) (An τ j) (k + 1) σ) ζ κ Φ x')
      rw [e]
      generalize fo (wdF τ j) (An τ j) k σ = σ1 at h e6 a5 ⊢
      unfold wdF prs
      rw [e6]
      by_cases q1 : τ 11 (An τ j + k) = p
      · by_cases q2 : σ1 9 (An τ j + k) = 1
        · rw [if_pos q1, if_pos q2, ob1_e, cnd_T, wq_4, ob1_e, ob1_e, ob1_e, nI_s, if_pos (by simp [q1, q2])]
          exact ok_some ⟨_, rfl, h.state hI hj hik (by decide) (by decide)⟩
        · rw [if_pos q1, if_neg q2, ob1_e, cnd_F, ob1_e, nI_s, if_neg (by simp [q2])]
          exact ok_some ⟨_, rfl, h⟩
      · rw [if_neg q1, ob1_e, cnd_F, ob1_e, nI_s, if_neg (by simp [q1])]
        exact ok_some ⟨_, rfl, h⟩
  · show ok (mX6_goes_L124 F (Sn τ) (Jn τ) Ns (nI (En τ j - An τ j)) j (b01 f) p ζ κ Φ (nI (En τ j - An τ j)) x) _
    unfold mX6_goes_L124
    rw [if_pos (Int32.le_refl _)]
    exact ok_some ⟨_, rfl, h⟩
theorem l_opens {φ : MS} {Φ0 : WS} (hI : SI τ) (h : LW τ σ ζ κ (va_up Φ0 j (pf φ 3 p)) Ψ) (hj : j < Jn τ) (hp : σ 6 j = p) (hF : 5000 ≤ F) : ok (mX5_opens F (En τ j - An τ j) φ (Ψ j) p) (fun r => r.1 = pf φ 3 p ∧ LW τ (fo (rdyF τ j) (An τ j) (En τ j - An τ j) σ) ζ κ (va_up Φ0 j (pf φ 3 p)) (va_up Ψ j r.2)) := by
  have hA := hI.A hj
  have hNN := hI.N.2
  have hl := loop_rel (f := fun st : Int32 × MS => mX5_opens_L16 F (En τ j - An τ j) (nI (En τ j - An τ j)) (pf φ 3 p) st.1 st.2) (fun k ψ => LW τ (fo (rdyF τ j) (An τ j) k σ) ζ κ (va_up Φ0 j (pf φ 3 p)) (va_up Ψ j ψ)) (Q := fun ψ => LW τ (fo (rdyF τ j) (An τ j) (En τ j - An τ j) σ) ζ κ (va_up Φ0 j (pf φ 3 p)) (va_up Ψ j ψ)) (En τ j - An τ j) (fun k ψ hk h => by
    show ok (mX5_opens_L16 F (En τ j - An τ j) (nI (En τ j - An τ j)) (pf φ 3 p) (nI k) ψ) _
    have hik : An τ j + k < En τ j := by omega
    have e6 : fo (rdyF τ j) (An τ j) k σ 6 j = p := (fo_keep (fun x : MS => x 6 j) (fun s x => rdy_5 (by decide)) k (An τ j) σ).trans hp
    have e : fo (rdyF τ j) (An τ j) (k + 1) σ = rdyF τ j (An τ j + k) (fo (rdyF τ j) (An τ j) k σ) := fo_end _ _ _ _
    rw [e]
    generalize fo (rdyF τ j) (An τ j) k σ = σ1 at h e6 ⊢
    have hs := h.ls hj hik
    rw [va_up_self] at hs
    obtain ⟨a1, a2, a3, a4, a5, a6, a7, a8, a9, a10⟩ := hs
    have hr := h.ready hI hj hik
    rw [u3_up, u3_up] at hr
    unfold mX5_opens_L16 rdyF prs
    rw [if_neg (nle (by omega) (by omega) hk), hixn_at hk (by omega), ob1_e, rq_0, ob1_e, a1, e6, pf_at, if_pos rfl, rq_4, ob1_e, a5]
    by_cases q1 : τ 11 (An τ j + k) = p
    · by_cases q2 : σ1 9 (An τ j + k) = 0
      · rw [if_pos q1, if_pos q2, wq_4, ob1_e, wq_8, ob1_e, ob1_e, nI_s, if_pos (by simp [q1, q2])]
        exact ok_some ⟨_, rfl, hr⟩
      · rw [if_pos q1, if_neg q2, ob1_e, nI_s, if_neg (by simp [q2])]
        exact ok_some ⟨_, rfl, h⟩
    · rw [if_neg q1, ob1_e, nI_s, if_neg (by simp [q1])]
      exact ok_some ⟨_, rfl, h⟩) (fun ψ h => by
    show ok (mX5_opens_L16 F (En τ j - An τ j) (nI (En τ j - An τ j)) (pf φ 3 p) (nI (En τ j - An τ j)) ψ) _
    unfold mX5_opens_L16
    rw [if_pos (Int32.le_refl _)]
    exact ok_some ⟨_, rfl, h⟩) (En τ j - An τ j) 0 F (Ψ j) (by omega) (by omega) (by rw [va_id]; exact h)
  obtain ⟨ψ, l1, l2⟩ := hl
  unfold mX5_opens
  rw [ob1_e, i0, l1, ob1_e]
  exact ok_some ⟨rfl, l2⟩
end LT
