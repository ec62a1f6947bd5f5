/-! pure: what people do with a parked journey -/
theorem u2_comm (σ : MS) {a i b k : Nat} {x y : Int32} (h : ¬ (a = b ∧ i = k)) : u2 (u2 σ a i x) b k y = u2 (u2 σ b k y) a i x := by
  funext c n
  rw [u2_at, u2_at, u2_at, u2_at]
  by_cases h1 : c = b ∧ n = k
  · rw [if_pos h1]
    by_cases h2 : c = a ∧ n = i
    · exact absurd ⟨h2.1.symm.trans h1.1, h2.2.symm.trans h1.2⟩ h
    · rw [if_neg h2, if_pos h1]
  · rw [if_neg h1, if_neg h1]
section PE
variable {F : Nat} {B B' : Int}
variable {τs : WS} {n : Nat} {pa : PA} {β : FS} {υ : MS} {ω : WS} {sid : PA} {i : Int32}
theorem c_ckP {j : Nat} (hg : gW sid n 0 = some ()) (hS : SI (τs (sid 0))) (hj : j < Jn (τs (sid 0))) : mX3_checkParked F τs n pa β υ ω sid (nI j) = some (if ω 0 5 j = 5 then .inr () else .inl "java/lang/IllegalStateException") := by
  unfold mX3_checkParked
  rw [hg, ob1_e, ob1_e, r8 hS hj, ob1_e]
  split <;> rfl
/-- a parked journey's last step that is done is put away: both sides, one world -/
theorem away {τ σ : MS} {μ : MS} {w : Nat → Int32} {j : Nat} {v : Int32} {T : Int} (hI : SI τ) (hF : 5000 ≤ F) (hB : B ≤ 2147400000) (hW : WI B T τ σ) (hj : j < Jn τ) (h5 : σ 5 j = 5) (hv : v = 5 ∨ v = 6) : ∃ s σ', An τ j ≤ s ∧ s < En τ j ∧ lsd τ σ j 0 = some s ∧ mX2_putLastStepAway F τ σ (nI j) v = some (nI (s - An τ j), σ') ∧ WI (B + 999) T τ σ' ∧ σ' = u2 (u2 (u2 (if v = 5 then u2 σ 3 (Kn τ s) (σ 3 (Kn τ s) + τ 13 s) else σ) 9 s v) 5 j 2) 8 j 0 := by
  have hA := hI.A hj
  have hN := hI.N.2
  obtain ⟨hS, hL⟩ := hW.2.1 j hj
  obtain ⟨s0, a, b, c⟩ := hL.2.2.2 h5
  cases hd : lsd τ σ j 0 with
  | none =>
    have := lst_none hd s0 a (by omega)
    rw [decide_eq_false_iff_not] at this
    exact absurd c this
  | some s =>
    obtain ⟨h1, h2, h3⟩ := lsd_in hd
    have hsN := hI.sN hj h2
    obtain ⟨p1, p2, p3, p4, p5⟩ := put_inv (v := v) hI hj (by omega) hS hW.1 h1 h2 (by rcases hv with rfl | rfl <;> decide)
    refine ⟨s, u2 (putF τ j s v σ) 5 j 2, h1, h2, rfl, ?_, ?_, ?_⟩
    · unfold mX2_putLastStepAway
      rw [i0, c_lsd hI hj hF (q := 0) (by decide), hd, ob1_e]
      show (if nI 0 ≤ nI s then ob1 (mX2_putStepAway F τ σ (nI j) (nI s) v) _ else _) = _
      rw [if_pos ((nI_leI (by decide) (by omega)).mpr (Nat.zero_le _)), c_put hI hj hsN, ob1_e, w8 hI hj, ob1_e, rA hI hj, ob1_e]
      show some (nI s - nI (An τ j), _) = _
      rw [nI_d h1]
    · refine hW.loc hI hj (p1.trans (Loc.up (by omega))) (p3.up (by decide)) (fun t t1 t2 => ?_) ?_
      · have := p2 t t1 t2
        rw [u2_n _ _ _ _ 10 t (by omega), u2_n _ _ _ _ 9 t (by omega), u2_n _ _ _ _ 12 t (by omega), u2_n _ _ _ _ 1 0 (by omega)]
        exact this
      · have hp := hI.P
        unfold LJ
        rw [u2_s, u2_n _ _ _ _ 8 j (by omega), p5]
        refine ⟨⟨by decide, by decide⟩, fun q => absurd q (by decide), fun _ => ⟨by decide, ?_⟩, fun q => absurd q (by decide)⟩
        have := hp.1
        show 0 < _
        omega
    · unfold putF
      exact u2_comm _ (by omega)
theorem opn_F {σ : MS} {s : Nat} : (opn σ s = false) ↔ (σ 9 s = 3 ∨ σ 9 s = 6) := by
  unfold opn
  rw [decide_eq_false_iff_not]
  constructor
  · intro h
    by_cases q : σ 9 s = 3
    · exact Or.inl q
    · by_cases q2 : σ 9 s = 6
      · exact Or.inr q2
      · exact absurd ⟨q, q2⟩ h
  · rintro (h | h) q
    · exact q.1 h
    · exact q.2 h
/-- the first stage with a step that is open: the class looks at the steps, the reference at the stages -/
theorem c_fos {τ σ : MS} {j : Nat} (hI : SI τ) (hj : j < Jn τ) (hF : 5000 ≤ F) : ok (mX2_firstOpenStage F τ σ (nI j)) (fun r => (r = -1 ∧ ∀ s, An τ j ≤ s → s < En τ j → opn σ s = false) ∨ ∃ s, An τ j ≤ s ∧ s < En τ j ∧ opn σ s = true ∧ r = nI (Gn τ s) ∧ ∀ t, An τ j ≤ t → t < s → opn σ t = false) := by
  have hA := hI.A hj
  have hN := hI.N.2
  have hl := loop_relX (α := Unit) (β := Int32 ⊕ Unit) (f := fun st : Int32 × Unit => (mX2_firstOpenStage_L20 F (nI (En τ j)) τ σ st.1).map (fun r => match r with | .inl b => .inl b | .inr v => .inr (v, ()))) (fun i _ => An τ j ≤ i ∧ ∀ t, An τ j ≤ t → t < i → opn σ t = false) (Q := fun r => (r = .inr () ∧ ∀ s, An τ j ≤ s → s < En τ j → opn σ s = false) ∨ ∃ s, An τ j ≤ s ∧ s < En τ j ∧ opn σ s = true ∧ r = .inl (nI (Gn τ s)) ∧ ∀ t, An τ j ≤ t → t < s → opn σ t = false) (En τ j) (fun i _ hi hR => by
    have hsN := hI.sN (s := i) hj hi
    show ok ((mX2_firstOpenStage_L20 F (nI (En τ j)) τ σ (nI i)).map _) _
    unfold mX2_firstOpenStage_L20
    rw [if_neg (nle (by omega) (by omega) hi), c_isOpen hI hsN, ob1_e, r40 hI hsN, ob1_e, ((hI.C hj).2.2.2.1 i hR.1 hi).1, nI_s]
    cases ho : opn σ i with
    | true =>
      rw [if_neg (by decide)]
      exact ok_some (Or.inl ⟨_, rfl, Or.inr ⟨i, hR.1, hi, ho, rfl, hR.2⟩⟩)
    | false =>
      rw [if_pos (by decide)]
      refine ok_some (Or.inr ⟨(), rfl, by omega, fun t t1 t2 => ?_⟩)
      by_cases q : t = i
      · rw [q]; exact ho
      · exact hR.2 t t1 (by omega)) (fun _ hR => by
    show ok ((mX2_firstOpenStage_L20 F (nI (En τ j)) τ σ (nI (En τ j))).map _) _
    unfold mX2_firstOpenStage_L20
    rw [if_pos (Int32.le_refl _)]
    exact ok_some ⟨_, rfl, Or.inl ⟨rfl, hR.2⟩⟩) (En τ j - An τ j) (An τ j) F () (by omega) (by omega) ⟨Nat.le_refl _, fun t t1 t2 => absurd t1 (by omega)⟩
  have conv : ∀ (fu : Nat) (v : Int32), loopM (fun st : Int32 × Unit => (mX2_firstOpenStage_L20 F (nI (En τ j)) τ σ st.1).map (fun r => match r with | .inl b => Sum.inl b | .inr v => Sum.inr (v, ()))) fu (v, ()) = loopM (fun st => mX2_firstOpenStage_L20 F (nI (En τ j)) τ σ st) fu v := by
    intro fu
    induction fu with
    | zero => intro v; rfl
    | succ fu ih =>
      intro v
      show ob1 ((mX2_firstOpenStage_L20 F (nI (En τ j)) τ σ v).map _) _ = ob1 (mX2_firstOpenStage_L20 F (nI (En τ j)) τ σ v) _
      cases mX2_firstOpenStage_L20 F (nI (En τ j)) τ σ v with
      | none => rfl
      | some r =>
        cases r with
        | inl b => rfl
        | inr v' => exact ih v'
  rw [conv] at hl
  obtain ⟨r, l1, l2⟩ := hl
  unfold mX2_firstOpenStage
  rw [rE hI hj, ob1_e, rA hI hj, ob1_e, l1, ob1_e]
  rcases l2 with ⟨rfl, h⟩ | ⟨s, a, b, c, rfl, d⟩
  · rw [el1_R]; exact ok_some (Or.inl ⟨rfl, h⟩)
  · rw [el1_L]; exact ok_some (Or.inr ⟨s, a, b, c, rfl, d⟩)
theorem overP_T {τ σ : MS} {j u : Nat} (hI : SI τ) (hj : j < Jn τ) (hu : u < 100) : overP τ σ j (nI u) = true ↔ ∀ s, An τ j ≤ s → s < En τ j → Gn τ s = u → opn σ s = false := by
  have hA := hI.A hj
  unfold overP
  rw [Bool.not_eq_true', exB_F]
  constructor
  · intro h s h1 h2 h3
    have := h s h1 (by omega)
    rw [Bool.and_eq_false_iff, decide_eq_false_iff_not] at this
    rcases this with q | q
    · exact absurd (by rw [((hI.C hj).2.2.2.1 s h1 h2).1, h3]) q
    · exact q
  · intro h s h1 h2
    rw [Bool.and_eq_false_iff, decide_eq_false_iff_not]
    by_cases q : Gn τ s = u
    · exact Or.inr (h s h1 (by omega) q)
    · refine Or.inl (fun q2 => q ?_)
      rw [((hI.C hj).2.2.2.1 s h1 (by omega)).1] at q2
      have := ((hI.C hj).2.2.2.1 s h1 (by omega)).2
      have := (hI.C hj).2.2.1
      exact (nI_i (by omega) (by omega)).mp q2
/-- an open step is to be done again -/
def agF (τ : MS) (s : Nat) (σ : MS) : MS := if opn σ s then u2 (u2 σ 9 s 0) 11 s (τ 16 s) else σ
theorem Inv.ag {τ σ0 σ : MS} {j s : Nat} (h : Inv B τ j σ0 σ) (h1 : An τ j ≤ s) (h2 : s < En τ j) : Inv B τ j σ0 (agF τ s σ) := by
  unfold agF
  split
  · exact (h.up h1 h2 (Or.inr (Or.inr ⟨rfl, by decide⟩))).up h1 h2 (Or.inl rfl)
  · exact h
theorem c_ags {τ σ : MS} {j : Nat} {p q : Int32} (hI : SI τ) (hj : j < Jn τ) (hF : 5000 ≤ F) : loopM (fun st : Int32 × MS => mX2_letGoForward_L33 F (nI (En τ j)) p q τ st.1 st.2) F (nI (An τ j), σ) = some (fo (agF τ) (An τ j) (En τ j - An τ j) σ) := by
  have hA := hI.A hj
  have hN := hI.N.2
  exact loop_up (f := fun st : Int32 × MS => mX2_letGoForward_L33 F (nI (En τ j)) p q τ st.1 st.2) (fun _ _ => True) (agF τ) (fun v => v) (En τ j) (fun s σ hs _ => ⟨by
    show mX2_letGoForward_L33 F (nI (En τ j)) p q τ (nI s) σ = _
    have hsN := hI.sN hj hs
    unfold mX2_letGoForward_L33 agF
    rw [if_neg (nle (by omega) (by omega) hs), c_isOpen hI hsN, ob1_e, w40 hI hsN, ob1_e, r40 hI hsN, ob1_e, w40 hI hsN]
    cases opn σ s <;> simp [ob1, nI_s, b01], trivial⟩) (fun v _ => by
    show mX2_letGoForward_L33 F (nI (En τ j)) p q τ (nI (En τ j)) v = _
    unfold mX2_letGoForward_L33
    rw [if_pos (Int32.le_refl _)]) (En τ j - An τ j) (An τ j) F σ (by omega) (by omega) trivial
end PE

