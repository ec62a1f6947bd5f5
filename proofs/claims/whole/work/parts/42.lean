/-! pure: a run with more of a stock goes as this one, as long as what is more is less than every lack -/
def Sh (k : Nat) (δ : Int32) (σ σ2 : MS) : Prop := (∀ i, σ2 1 i = σ 1 i) ∧ σ2 2 0 = σ 2 0 ∧ (∀ c i, (c = 3 ∧ i ≠ k) ∨ (5 ≤ c ∧ c ≤ 13) → σ2 c i = σ c i) ∧ σ2 3 k = σ 3 k + δ
section SH
variable {τ σ σ2 : MS} {k j s : Nat} {δ v p : Int32} {B T : Int}
theorem Sh.c (h : Sh k δ σ σ2) {c : Nat} (hc : 5 ≤ c ∧ c ≤ 13) : σ2 c = σ c := funext fun i => h.2.2.1 c i (Or.inr hc)
theorem Sh.up (h : Sh k δ σ σ2) {c i : Nat} (hc : 5 ≤ c ∧ c ≤ 13) : Sh k δ (u2 σ c i v) (u2 σ2 c i v) := by
  obtain ⟨a, b, d, e⟩ := h
  refine ⟨fun i => by rw [u2_n _ _ _ _ _ _ (by omega), u2_n _ _ _ _ _ _ (by omega)]; exact a i, by rw [u2_n _ _ _ _ _ _ (by omega), u2_n _ _ _ _ _ _ (by omega)]; exact b, fun q x hq => ?_, by rw [u2_n _ _ _ _ _ _ (by omega), u2_n _ _ _ _ _ _ (by omega)]; exact e⟩
  rw [u2_at, u2_at]
  split
  · rfl
  · exact d q x hq
theorem Sh.lack (h : Sh k δ σ σ2) {i x : Nat} {v' : Int32} : Sh k δ (u2 σ 4 i v) (u2 σ2 4 x v') := by
  obtain ⟨a, b, d, e⟩ := h
  refine ⟨fun i => by rw [u2_n _ _ _ _ _ _ (by omega), u2_n _ _ _ _ _ _ (by omega)]; exact a i, by rw [u2_n _ _ _ _ _ _ (by omega), u2_n _ _ _ _ _ _ (by omega)]; exact b, fun q x hq => by rw [u2_n _ _ _ _ _ _ (by omega), u2_n _ _ _ _ _ _ (by omega)]; exact d q x hq, by rw [u2_n _ _ _ _ _ _ (by omega), u2_n _ _ _ _ _ _ (by omega)]; exact e⟩
theorem Sh.lev (h : Sh k δ σ σ2) {i : Nat} {f : Int32 → Int32} (hf : ∀ x y, f (x + y) = f x + y) : Sh k δ (u2 σ 3 i (f (σ 3 i))) (u2 σ2 3 i (f (σ2 3 i))) := by
  obtain ⟨a, b, d, e⟩ := h
  refine ⟨fun i => by rw [u2_n _ _ _ _ _ _ (by omega), u2_n _ _ _ _ _ _ (by omega)]; exact a i, by rw [u2_n _ _ _ _ _ _ (by omega), u2_n _ _ _ _ _ _ (by omega)]; exact b, fun q x hq => ?_, ?_⟩
  · rw [u2_at, u2_at]
    split
    · next h9 => rw [d 3 i (Or.inl ⟨rfl, by omega⟩)]
    · exact d q x hq
  · rw [u2_at, u2_at]
    split
    · next h9 => rw [← h9.2, e, hf]
    · exact e
theorem Sh.p2 (h : Sh k δ σ σ2) : Sh k δ (pf σ 2 v) (pf σ2 2 v) := by
  obtain ⟨a, b, d, e⟩ := h
  refine ⟨fun i => by rw [pf_n _ _ _ _ _ (by decide), pf_n _ _ _ _ _ (by decide)]; exact a i, by rw [pf_at, if_pos rfl, pf_at, if_pos rfl], fun q x hq => by rw [pf_n _ _ _ _ _ (by omega), pf_n _ _ _ _ _ (by omega)]; exact d q x hq, by rw [pf_n _ _ _ _ _ (by decide), pf_n _ _ _ _ _ (by decide)]; exact e⟩
theorem Sh.p1 (h : Sh k δ σ σ2) : Sh k δ (pf σ 1 v) (pf σ2 1 v) := by
  obtain ⟨a, b, d, e⟩ := h
  refine ⟨fun i => by rw [pf_at, if_pos rfl, pf_at, if_pos rfl], by rw [pf_n _ _ _ _ _ (by decide), pf_n _ _ _ _ _ (by decide)]; exact b, fun q x hq => by rw [pf_n _ _ _ _ _ (by omega), pf_n _ _ _ _ _ (by omega)]; exact d q x hq, by rw [pf_n _ _ _ _ _ (by decide), pf_n _ _ _ _ _ (by decide)]; exact e⟩
/-- less than the lacks of the world, or nothing at all -/
def Lk (k : Nat) (δ : Int32) (σ : MS) : Prop := δ.toInt = 0 ∨ δ.toInt < (σ 4 k).toInt
theorem Lk.le {σ' : MS} (h : Lk k δ σ) (hle : (σ 4 k).toInt ≤ (σ' 4 k).toInt) : Lk k δ σ' := h.elim Or.inl (fun q => Or.inr (by omega))
theorem Lk.eq {σ' : MS} (h : Lk k δ σ) (hle : σ 4 k = σ' 4 k) : Lk k δ σ' := h.le (by rw [hle]; exact Int.le_refl _)
theorem take_le (hI : SI τ) {s k' : Nat} : (takeF τ s k' σ 4 k).toInt ≤ (σ 4 k).toInt := by
  have e : ∀ c i x, c ≠ 4 → (u2 (u2 σ 4 k' (if τ 13 s - σ 3 k' < σ 4 k' then τ 13 s - σ 3 k' else σ 4 k')) c i x 4 k).toInt ≤ (σ 4 k).toInt := fun c i x hc => by
    rw [u2_n _ _ _ _ _ _ (by omega), u2_at]
    split
    · next q =>
      rw [q.2]
      split
      · next q2 => rw [ltI] at q2; omega
      · exact Int.le_refl _
    · exact Int.le_refl _
  unfold takeF
  split
  · split
    · exact e 9 _ _ (by decide)
    · exact e 11 _ _ (by decide)
  · rw [u2_n _ _ _ _ _ _ (by omega), u2_n _ _ _ _ _ _ (by omega), u2_n _ _ _ _ _ _ (by omega)]
    exact Int.le_refl _
theorem step_le (hI : SI τ) : (stepF τ j s σ 4 k).toInt ≤ (σ 4 k).toInt := by
  unfold stepF
  split
  · split
    · exact Int.le_refl _
    · rw [u2_n _ _ _ _ _ _ (by omega)]; exact Int.le_refl _
  · split
    · split
      · split
        · rw [u2_n _ _ _ _ _ _ (by omega)]; exact Int.le_refl _
        · rw [u2_n _ _ _ _ _ _ (by omega)]; exact Int.le_refl _
      · exact take_le hI
    · exact Int.le_refl _
theorem take_sh (hI : SI τ) (hs : s < Nn τ) (hB : B ≤ 2147000000) (hV : LV B τ σ) (hd : 0 ≤ δ.toInt ∧ δ.toInt ≤ 999) (h : Sh k δ σ σ2) (hl : Lk k δ (takeF τ s (Kn τ s) σ)) : Sh k δ (takeF τ s (Kn τ s) σ) (takeF τ s (Kn τ s) σ2) := by
  have hK := hI.K hs
  obtain ⟨v1, v2⟩ := hV (Kn τ s) hK.2.1
  obtain ⟨a1, a2⟩ := hK.2.2.1
  have e11 := h.c (c := 11) (by decide)
  have e0 : (0 : Int32).toInt = 0 := rfl
  have elev : (σ2 3 (Kn τ s)).toInt = (σ 3 (Kn τ s)).toInt + (if Kn τ s = k then δ.toInt else 0) := by
    by_cases q : Kn τ s = k
    · rw [if_pos q]
      subst q
      rw [h.2.2.2, aI (by omega) (by omega)]
    · rw [if_neg q, h.2.2.1 3 _ (Or.inl ⟨rfl, q⟩)]; omega
  have hbr : (0 < τ 13 s - σ2 3 (Kn τ s)) ↔ (0 < τ 13 s - σ 3 (Kn τ s)) := by
    have b1 : (τ 13 s - σ2 3 (Kn τ s)).toInt = (τ 13 s).toInt - (σ2 3 (Kn τ s)).toInt := sI (by split at elev <;> omega) (by split at elev <;> omega)
    have b2 : (τ 13 s - σ 3 (Kn τ s)).toInt = (τ 13 s).toInt - (σ 3 (Kn τ s)).toInt := sI (by omega) (by omega)
    rw [ltI, ltI, b1, b2, e0, elev]
    by_cases q : Kn τ s = k
    · rw [if_pos q]
      constructor
      · intro q2; omega
      · intro q2
        rcases hl with hl | hl
        · omega
        · have : (takeF τ s (Kn τ s) σ 4 k).toInt ≤ (τ 13 s - σ 3 (Kn τ s)).toInt := by
            have hc : 0 < τ 13 s - σ 3 (Kn τ s) := by rw [ltI, b2, e0]; exact q2
            have e4 : ∀ c i x, c ≠ 4 → (u2 (u2 σ 4 (Kn τ s) (if τ 13 s - σ 3 (Kn τ s) < σ 4 (Kn τ s) then τ 13 s - σ 3 (Kn τ s) else σ 4 (Kn τ s))) c i x 4 k).toInt ≤ (τ 13 s - σ 3 (Kn τ s)).toInt := fun c i x hc => by
              rw [u2_n _ _ _ _ _ _ (by omega), ← q, u2_s]
              split
              · exact Int.le_refl _
              · next q3 => rw [ltI] at q3; omega
            unfold takeF
            rw [if_pos hc]
            split
            · exact e4 9 _ _ (by decide)
            · exact e4 11 _ _ (by decide)
          rw [b2] at this
          omega
    · rw [if_neg q]; omega
  unfold takeF
  rw [e11]
  by_cases q : 0 < τ 13 s - σ 3 (Kn τ s)
  · rw [if_pos q, if_pos (hbr.mpr q)]
    split
    · exact h.lack.up (by decide)
    · exact h.lack.up (by decide)
  · rw [if_neg q, if_neg (fun q2 => q (hbr.mp q2)), h.1 0]
    refine ((h.lev (f := fun x => x - τ 13 s) (fun x y => ?_)).up (by decide)).up (by decide)
    show x + y - τ 13 s = x - τ 13 s + y
    rw [Int32.sub_eq_add_neg, Int32.sub_eq_add_neg, Int32.add_assoc, Int32.add_comm y, ← Int32.add_assoc]
theorem hold_sh (h : Sh k δ σ σ2) {x : Int32} : hold τ σ2 j x = hold τ σ j x := by
  unfold hold hst tkb
  rw [h.c (c := 9) (by decide)]
theorem holders_sh (h : Sh k δ σ σ2) {x : Int32} : holders τ σ2 x = holders τ σ x := by
  unfold holders ended hold hst tkb
  rw [h.c (c := 9) (by decide), h.c (c := 5) (by decide)]
theorem step_sh (hI : SI τ) (hs : s < Nn τ) (hB : B ≤ 2147000000) (hV : LV B τ σ) (hd : 0 ≤ δ.toInt ∧ δ.toInt ≤ 999) (h : Sh k δ σ σ2) (hl : Lk k δ (stepF τ j s σ)) : Sh k δ (stepF τ j s σ) (stepF τ j s σ2) := by
  unfold stepF at hl ⊢
  rw [h.c (c := 9) (by decide), h.c (c := 12) (by decide), h.c (c := 13) (by decide), h.1 0, hold_sh h, holders_sh h]
  split
  · split
    · exact h
    · exact h.up (by decide)
  · next q =>
    rw [if_neg q] at hl
    split
    · next q2 =>
      rw [if_pos q2] at hl
      split
      · split
        · exact h.up (by decide)
        · exact h.up (by decide)
      · next q3 =>
        rw [if_neg q3] at hl
        exact take_sh hI hs hB hV hd h hl
    · exact h
theorem fo_le {g : Nat → MS → MS} (hm : ∀ s x, (g s x 4 k).toInt ≤ (x 4 k).toInt) : ∀ (n a : Nat) (x : MS), (fo g a n x 4 k).toInt ≤ (x 4 k).toInt := by
  intro n
  induction n with
  | zero => intro a x; exact Int.le_refl _
  | succ n ih => intro a x; exact Int.le_trans (ih (a + 1) _) (hm a x)
theorem fo_sh2 {g : Nat → MS → MS} (Q : Nat → MS → Prop) {b : Nat} (hm : ∀ s x, (g s x 4 k).toInt ≤ (x 4 k).toInt) (hQ : ∀ s x, s < b → Q s x → Q (s + 1) (g s x)) (hs : ∀ s x x2, s < b → Q s x → Sh k δ x x2 → Lk k δ (g s x) → Sh k δ (g s x) (g s x2)) : ∀ (n a : Nat) (x x2 : MS), a + n ≤ b → Q a x → Sh k δ x x2 → Lk k δ (fo g a n x) → Sh k δ (fo g a n x) (fo g a n x2) := by
  intro n
  induction n with
  | zero => intro a x x2 _ _ h _; exact h
  | succ n ih =>
    intro a x x2 hb hq h hl
    exact ih (a + 1) _ _ (by omega) (hQ a x (by omega) hq) (hs a x x2 (by omega) hq h (Lk.le hl (fo_le hm n (a + 1) _))) hl
theorem mv_le (hI : SI τ) : (mvF τ j s σ 4 k).toInt ≤ (σ 4 k).toInt := by
  unfold mvF
  split
  · exact step_le hI
  · exact Int.le_refl _
theorem mvs_sh (hI : SI τ) (hj : j < Jn τ) (hB : B ≤ 2147000000) (hd : 0 ≤ δ.toInt ∧ δ.toInt ≤ 999) (hi : Inv B τ j σ σ) (h : Sh k δ σ σ2) (hl : Lk k δ (mvsF τ j σ)) : Sh k δ (mvsF τ j σ) (mvsF τ j σ2) := by
  have hA := hI.A hj
  refine fo_sh2 (g := mvF τ j) (b := En τ j) (fun t x => An τ j ≤ t ∧ Inv B τ j σ x) (fun s x => mv_le hI) (fun s x hs hq => ⟨by omega, hq.2.mv hI hj (by omega) hq.1 hs⟩) (fun s x x2 hs hq h hl => ?_) _ _ σ σ2 (by omega) ⟨Nat.le_refl _, hi⟩ h hl
  have e : prs τ x2 j s = prs τ x j s := by unfold prs; rw [h.c (c := 6) (by decide)]
  unfold mvF at hl ⊢
  rw [e]
  split
  · next q =>
    rw [if_pos q] at hl
    exact step_sh hI (hI.sN hj hs) hB hq.2.2.2.1 hd h hl
  · exact h
theorem fo_sh3 {g : Nat → MS → MS} (hs : ∀ s x x2, Sh k δ x x2 → Sh k δ (g s x) (g s x2)) : ∀ (n a : Nat) (x x2 : MS), Sh k δ x x2 → Sh k δ (fo g a n x) (fo g a n x2) := by
  intro n
  induction n with
  | zero => intro a x x2 h; exact h
  | succ n ih => intro a x x2 h; exact ih (a + 1) _ _ (hs a x x2 h)
theorem wd_sh (h : Sh k δ σ σ2) : Sh k δ (withF τ j σ) (withF τ j σ2) := by
  refine fo_sh3 (fun s x x2 h => ?_) _ _ _ _ h
  unfold wdF prs
  rw [h.c (c := 6) (by decide), h.c (c := 9) (by decide)]
  split
  · exact h.up (by decide)
  · exact h
theorem rest_sh (h : Sh k δ σ σ2) : Sh k δ (restF j v σ) (restF j v σ2) := by
  unfold restF
  rw [h.1 0]
  exact (h.up (by decide)).up (by decide)
theorem ent_sh (h : Sh k δ σ σ2) : Sh k δ (entF τ j p σ) (entF τ j p σ2) := by
  unfold entF
  split
  · refine fo_sh3 (fun s x x2 h => ?_) _ _ _ _ (h.up (by decide))
    unfold rdyF prs
    rw [h.c (c := 6) (by decide), h.c (c := 9) (by decide)]
    split
    · exact (h.up (by decide)).up (by decide)
    · exact h
  · exact rest_sh h
theorem stHas_sh (h : Sh k δ σ σ2) : stHas τ σ2 j v = stHas τ σ j v := by
  unfold stHas prs
  rw [h.c (c := 6) (by decide), h.c (c := 9) (by decide)]
theorem over_sh (h : Sh k δ σ σ2) : over τ σ2 j = over τ σ j := by
  unfold over prs opn
  rw [h.c (c := 6) (by decide), h.c (c := 9) (by decide)]
theorem ent_4 {i : Nat} : entF τ j p σ 4 i = σ 4 i := by
  unfold entF restF
  split
  · rw [fo_keep (fun x : MS => x 4 i) (fun s x => rdy_5 (by decide)), u2_n _ _ _ _ _ _ (by omega)]
  · rw [u2_n _ _ _ _ _ _ (by omega), u2_n _ _ _ _ _ _ (by omega)]
theorem with_4k {i : Nat} : withF τ j σ 4 i = σ 4 i := fo_keep (fun x : MS => x 4 i) (fun s x => wd_j (by decide)) _ _ σ
theorem end_4 {i : Nat} {f : Bool} : endF τ j f σ 4 i = σ 4 i := by
  unfold endF
  split
  · exact ent_4
  · split
    · rw [u2_n _ _ _ _ _ _ (by omega), u2_n _ _ _ _ _ _ (by omega)]
    · rfl
theorem move_4 {i : Nat} : moveF τ j σ 4 i = mvsF τ j σ 4 i := by
  unfold moveF
  rw [end_4]
  split
  · exact with_4k
  · rfl
theorem end_sh {f : Bool} (h : Sh k δ σ σ2) : Sh k δ (endF τ j f σ) (endF τ j f σ2) := by
  unfold endF
  rw [over_sh h, stHas_sh h, h.c (c := 6) (by decide)]
  split
  · exact ent_sh h
  · split
    · exact (h.up (by decide)).up (by decide)
    · exact h
theorem move_sh (hI : SI τ) (hj : j < Jn τ) (hB : B ≤ 2147000000) (hd : 0 ≤ δ.toInt ∧ δ.toInt ≤ 999) (hi : Inv B τ j σ σ) (h : Sh k δ σ σ2) (hl : Lk k δ (moveF τ j σ)) : Sh k δ (moveF τ j σ) (moveF τ j σ2) := by
  have h1 := mvs_sh hI hj hB hd hi h (hl.eq move_4)
  unfold moveF
  rw [stHas_sh h1]
  refine end_sh ?_
  split
  · exact wd_sh h1
  · exact h1
theorem rest_4 {i : Nat} : restF j v σ 4 i = σ 4 i := by
  unfold restF
  rw [u2_n _ _ _ _ _ _ (by omega), u2_n _ _ _ _ _ _ (by omega)]
theorem uf_4 {i : Nat} : ufF j s σ 4 i = σ 4 i := by
  unfold ufF
  rw [u2_n _ _ _ _ _ _ (by omega), pf_n _ _ _ _ _ (by decide), u2_n _ _ _ _ _ _ (by omega)]
theorem put_4 {i : Nat} : putF τ j s 5 σ 4 i = σ 4 i := by
  unfold putF
  rw [u2_n _ _ _ _ _ _ (by omega), u2_n _ _ _ _ _ _ (by omega), if_pos rfl, u2_n _ _ _ _ _ _ (by omega)]
theorem undo_4 {i : Nat} : undoF τ j σ 4 i = σ 4 i := by
  unfold undoF
  cases lsd τ σ j 0 with
  | none => exact rest_4
  | some s =>
    show (if σ 10 s ≤ 0 then putF τ j s 5 σ else if σ 8 j + 1 < τ 1 0 then ufF j s σ else restF j 5 (ufF j s σ)) 4 i = _
    split
    · exact put_4
    · split
      · exact uf_4
      · rw [rest_4]; exact uf_4
theorem undo_sh (h : Sh k δ σ σ2) : Sh k δ (undoF τ j σ) (undoF τ j σ2) := by
  have e : lsd τ σ2 j 0 = lsd τ σ j 0 := by unfold lsd; rw [h.c (c := 9) (by decide)]
  unfold undoF
  rw [e]
  cases lsd τ σ j 0 with
  | none => exact rest_sh h
  | some s =>
    show Sh k δ (if σ 10 s ≤ 0 then putF τ j s 5 σ else if σ 8 j + 1 < τ 1 0 then ufF j s σ else restF j 5 (ufF j s σ)) (if σ2 10 s ≤ 0 then putF τ j s 5 σ2 else if σ2 8 j + 1 < τ 1 0 then ufF j s σ2 else restF j 5 (ufF j s σ2))
    rw [h.c (c := 10) (by decide), h.c (c := 8) (by decide)]
    have huf : Sh k δ (ufF j s σ) (ufF j s σ2) := by
      unfold ufF
      rw [h.c (c := 10) (by decide), h.c (c := 8) (by decide), h.2.1]
      exact ((h.up (by decide)).p2).up (by decide)
    split
    · unfold putF
      rw [if_pos rfl, if_pos rfl]
      refine ((h.lev (f := fun x => x + τ 13 s) (fun x y => ?_)).up (by decide)).up (by decide)
      show x + y + τ 13 s = x + τ 13 s + y
      rw [Int32.add_assoc, Int32.add_comm y, ← Int32.add_assoc]
    · split
      · exact huf
      · exact rest_sh huf
theorem ph1_4 {i : Nat} : ph1 τ j σ 4 i = σ 4 i := by
  unfold ph1
  split
  · rfl
  · split
    · rw [ent_4, u2_n _ _ _ _ _ _ (by omega)]
    · rfl
theorem ph1_sh (h : Sh k δ σ σ2) : Sh k δ (ph1 τ j σ) (ph1 τ j σ2) := by
  unfold ph1
  rw [h.c (c := 5) (by decide), h.1 0]
  split
  · exact h
  · split
    · exact ent_sh (h.up (by decide))
    · exact h
theorem ph2_le (hI : SI τ) : (ph2 τ j σ 4 k).toInt ≤ (σ 4 k).toInt := by
  unfold ph2
  split
  · rw [move_4]; exact fo_le (fun s x => mv_le hI) _ _ _
  · exact Int.le_refl _
theorem ph3_4 {w : Nat → Int32} {i : Nat} : ph3 τ w j σ 4 i = σ 4 i := by
  unfold ph3
  split
  · exact undo_4
  · rfl
theorem tick_le (hI : SI τ) : (tickF τ σ 4 k).toInt ≤ (σ 4 k).toInt := by
  unfold tickF ph123
  rw [pf_n _ _ _ _ _ (by decide), fo_keep (fun x : MS => x 4 k) (fun s x => ph3_4)]
  refine Int.le_trans (fo_le (fun s x => ph2_le hI) _ _ _) ?_
  rw [fo_keep (fun x : MS => x 4 k) (fun s x => ph1_4)]
  exact Int.le_refl _
theorem tick_sh (hI : SI τ) (hB : B ≤ 2147000000) (hd : 0 ≤ δ.toInt ∧ δ.toInt ≤ 999) (hW : WI B T τ σ) (h : Sh k δ σ σ2) (hl : Lk k δ (tickF τ σ)) : Sh k δ (tickF τ σ) (tickF τ σ2) := by
  have e5 := h.c (c := 5) (by decide)
  have h1 : Sh k δ (fo (ph1 τ) 0 (Jn τ) σ) (fo (ph1 τ) 0 (Jn τ) σ2) := fo_sh3 (g := ph1 τ) (fun s x x2 h => ph1_sh h) _ _ _ _ h
  have hW1 := (fo1_inv (k := Jn τ) hI hW (Nat.le_refl _)).1
  have hl2 : Lk k δ (fo (ph2 τ) 0 (Jn τ) (fo (ph1 τ) 0 (Jn τ) σ)) := by
    refine hl.eq ?_
    unfold tickF ph123
    rw [pf_n _ _ _ _ _ (by decide), fo_keep (fun x : MS => x 4 k) (fun s x => ph3_4)]
  have h2 : Sh k δ (fo (ph2 τ) 0 (Jn τ) (fo (ph1 τ) 0 (Jn τ) σ)) (fo (ph2 τ) 0 (Jn τ) (fo (ph1 τ) 0 (Jn τ) σ2)) := by
    refine fo_sh2 (g := ph2 τ) (b := Jn τ) (fun _ x => WI B T τ x) (fun s x => ph2_le hI) (fun s x hs hq => (ph2_inv hI (by omega) hq hs).1) (fun s x x2 hs hq h hl => ?_) _ _ _ _ (by omega) hW1 h1 hl2
    unfold ph2 at hl ⊢
    rw [h.c (c := 5) (by decide)]
    split
    · next q =>
      rw [if_pos q] at hl
      exact move_sh hI hs hB hd (Inv.start (hq.2.1 s hs).1 hq.1 hq.t0) h hl
    · exact h
  have h3 : Sh k δ (ph123 τ σ) (ph123 τ σ2) := by
    unfold ph123
    rw [e5]
    refine fo_sh3 (fun s x x2 h => ?_) _ _ _ _ h2
    unfold ph3
    split
    · exact undo_sh h
    · exact h
  unfold tickF
  rw [h3.1 0]
  exact h3.p1
theorem run_le (hI : SI τ) {st : MS → Bool} : ∀ (n : Nat) (σ : MS), (runT τ st n σ 4 k).toInt ≤ (σ 4 k).toInt := by
  intro n
  induction n with
  | zero => intro σ; exact Int.le_refl _
  | succ n ih =>
    intro σ
    unfold runT
    split
    · exact Int.le_refl _
    · exact Int.le_trans (ih _) (tick_le hI)
theorem run_sh (hI : SI τ) (hd : 0 ≤ δ.toInt ∧ δ.toInt ≤ 999) : ∀ (n : Nat) (σ σ2 : MS) (B T : Int), B + 7992 * (n : Int) ≤ 2147000000 → T + n ≤ 1000000 → WI B T τ σ → Sh k δ σ σ2 → Lk k δ (runT τ (stJ j) n σ) → Sh k δ (runT τ (stJ j) n σ) (runT τ (stJ j) n σ2) := by
  intro n
  induction n with
  | zero => intro σ σ2 B T _ _ _ h _; exact h
  | succ n ih =>
    intro σ σ2 B T hB hT hW h hl
    have e : stJ j σ2 = stJ j σ := by unfold stJ; rw [h.c (c := 5) (by decide)]
    unfold runT at hl ⊢
    rw [e]
    split
    · exact h
    · next q =>
      rw [if_neg q] at hl
      exact ih _ _ (B + 7992) (T + 1) (by omega) (by omega) (tick_inv hI (by omega) (by omega) hW).1 (tick_sh hI (by omega) hd hW h (hl.le (run_le hI n _))) hl
end SH
