/-! pure: the class's mask of those that were undoing; its tick -/
def bt (v : Int32) (i : Nat) : Prop := ((v >>> (nI i &&& 31)) &&& (1 : Int32)) = (1 : Int32)
theorem one_bit : ∀ k : Fin 32, (1#32)[k.val] = decide (k.val = 0) := by decide
theorem bv_bit (x : BitVec 32) (i : Nat) (hi : i < 8) : ((x.sshiftRight i) &&& 1#32 = 1#32) ↔ x.getLsbD i = true := by
  have e1 : ∀ k : Fin 32, (1#32)[k.val] = decide (k.val = 0) := fun k => one_bit k
  constructor
  · intro h
    have h1 := congrArg (fun y : BitVec 32 => y.getLsbD 0) h
    have : ((x.sshiftRight i) &&& 1#32).getLsbD 0 = x.getLsbD i := by
      rw [BitVec.getLsbD_and, BitVec.getLsbD_sshiftRight]
      simp [show i < 32 by omega]
    rw [← this]
    exact h1.trans (by decide)
  · intro h
    ext k hk
    rw [BitVec.getElem_and, e1 ⟨k, hk⟩]
    by_cases hk0 : k = 0
    · subst hk0
      simp [BitVec.getElem_sshiftRight, show i < 32 by omega]
      rw [← h, BitVec.getLsbD_eq_getElem]
    · simp [hk0]
theorem bt_iff (v : Int32) (i : Nat) (hi : i < 8) : bt v i ↔ v.toBitVec.getLsbD i = true := by
  rw [← bv_bit v.toBitVec i hi]
  unfold bt
  rw [← Int32.toBitVec_inj]
  match i, hi with
  | 0, _ => exact Iff.rfl
  | 1, _ => exact Iff.rfl
  | 2, _ => exact Iff.rfl
  | 3, _ => exact Iff.rfl
  | 4, _ => exact Iff.rfl
  | 5, _ => exact Iff.rfl
  | 6, _ => exact Iff.rfl
  | 7, _ => exact Iff.rfl
  | n + 8, h => exact absurd h (by omega)
theorem sl_bit : ∀ j : Fin 8, ∀ i : Fin 8, ((1 : Int32) <<< (nI j.val &&& 31)).toBitVec.getLsbD i.val = decide (i = j) := by decide +kernel
theorem bt_or (v : Int32) {i j : Nat} (hi : i < 8) (hj : j < 8) : bt (v ||| ((1 : Int32) <<< (nI j &&& 31))) i ↔ (i = j ∨ bt v i) := by
  rw [bt_iff _ _ hi, bt_iff _ _ hi]
  have e : (v ||| ((1 : Int32) <<< (nI j &&& 31))).toBitVec = v.toBitVec ||| ((1 : Int32) <<< (nI j &&& 31)).toBitVec := rfl
  rw [e, BitVec.getLsbD_or, sl_bit ⟨j, hj⟩ ⟨i, hi⟩, Bool.or_eq_true, decide_eq_true_eq, Fin.mk.injEq]
  exact Or.comm
theorem bt_0 {i : Nat} (hi : i < 8) : ¬ bt 0 i := by
  have : ∀ i : Fin 8, ¬ bt 0 i.val := by
    unfold bt
    decide +kernel
  exact this ⟨i, hi⟩
theorem rdy_5 {τ σ : MS} {j s c i : Nat} (hc : c < 9) : rdyF τ j s σ c i = σ c i := by
  unfold rdyF
  split
  · rw [u2_n _ _ _ _ _ _ (by omega), u2_n _ _ _ _ _ _ (by omega)]
  · rfl
theorem fo_keep {α β : Type} {g : Nat → α → α} (q : α → β) (h : ∀ s x, q (g s x) = q x) : ∀ (n a : Nat) (x : α), q (fo g a n x) = q x := by
  intro n
  induction n with
  | zero => intro a x; rfl
  | succ n ih => intro a x; exact (ih (a + 1) _).trans (h a x)
theorem ent_5 {τ σ : MS} {j i : Nat} {p : Int32} (h : i ≠ j) : entF τ j p σ 5 i = σ 5 i := by
  unfold entF restF
  split
  · rw [fo_keep (fun x : MS => x 5 i) (fun s x => rdy_5 (by decide)), u2_n _ _ _ _ _ _ (by omega)]
  · rw [u2_n _ _ _ _ _ _ (by omega), u2_n _ _ _ _ _ _ (by omega)]
theorem ph1_5 {τ σ : MS} {j i : Nat} (h : i ≠ j) : ph1 τ j σ 5 i = σ 5 i := by
  unfold ph1
  split
  · rfl
  · split
    · rw [ent_5 h, u2_n _ _ _ _ _ _ (by omega)]
    · rfl
theorem fo1_5 {τ : MS} {i : Nat} : ∀ (n a : Nat) (σ : MS), (i < a ∨ a + n ≤ i) → fo (ph1 τ) a n σ 5 i = σ 5 i := by
  intro n
  induction n with
  | zero => intro a σ _; rfl
  | succ n ih =>
    intro a σ h
    show fo (ph1 τ) (a + 1) n (ph1 τ a σ) 5 i = _
    rw [ih (a + 1) _ (by omega), ph1_5 (by omega)]
/-- the mask of the first k -/
def mk8 (w : Nat → Int32) (k : Nat) : Int32 := fo (fun j v => if w j = 2 then v ||| ((1 : Int32) <<< (nI j &&& 31)) else v) 0 k 0
theorem mk8_bt (w : Nat → Int32) : ∀ k, k ≤ 8 → ∀ i, i < 8 → (bt (mk8 w k) i ↔ (i < k ∧ w i = 2)) := by
  intro k
  induction k with
  | zero =>
    intro _ i hi
    constructor
    · intro h; exact absurd h (bt_0 hi)
    · intro h; omega
  | succ k ih =>
    intro hk i hi
    unfold mk8
    rw [fo_end, Nat.zero_add]
    have ih := ih (by omega) i hi
    unfold mk8 at ih
    by_cases h2 : w k = 2
    · rw [if_pos h2, bt_or _ hi (by omega), ih]
      constructor
      · rintro (h | h)
        · subst h; exact ⟨by omega, h2⟩
        · exact ⟨by omega, h.2⟩
      · intro h
        by_cases q : i = k
        · exact Or.inl q
        · exact Or.inr ⟨by omega, h.2⟩
    · rw [if_neg h2, ih]
      constructor
      · intro h; exact ⟨by omega, h.2⟩
      · intro h
        refine ⟨?_, h.2⟩
        rcases (show i < k ∨ i = k by omega) with q | q
        · exact q
        · subst q; exact absurd h.2 h2
section CT
variable {τ σ : MS} {F : Nat}
theorem c_tick (hI : SI τ) (hF : 5000 ≤ F) : mX2_passTick F τ σ = some (tickF τ σ) := by
  have hJ := hI.J
  have l1 : ok (loopM (fun st : Int32 × Int32 × MS => mX2_passTick_L4 F τ st.1 st.2.1 st.2.2) F (nI 0, ((0 : Int32), σ))) (fun r => r = (mk8 (σ 5) (Jn τ), fo (ph1 τ) 0 (Jn τ) σ)) := by
    refine loop_rel (f := fun st : Int32 × Int32 × MS => mX2_passTick_L4 F τ st.1 st.2.1 st.2.2) (fun k x => x = (mk8 (σ 5) k, fo (ph1 τ) 0 k σ)) (Jn τ) (fun k x hk hx => ?_) (fun x hx => ?_) (Jn τ) 0 F _ (by omega) (by omega) rfl
    · subst hx
      refine ⟨_, ?_, _, rfl, rfl⟩
      show mX2_passTick_L4 F τ (nI k) (mk8 (σ 5) k) (fo (ph1 τ) 0 k σ) = _
      unfold mX2_passTick_L4
      rw [hJ.1, if_neg (nle (by omega) (by omega) hk), r8 hI hk, ob1_e, r8 hI hk, ob1_e, ob1_e]
      have e5 : fo (ph1 τ) 0 k σ 5 k = σ 5 k := fo1_5 k 0 σ (by omega)
      have em : mk8 (σ 5) (k + 1) = if σ 5 k = 2 then mk8 (σ 5) k ||| ((1 : Int32) <<< (nI k &&& 31)) else mk8 (σ 5) k := by
        unfold mk8; rw [fo_end, Nat.zero_add]
      rw [em, fo_end, Nat.zero_add]
      generalize fo (ph1 τ) 0 k σ = σ1 at e5 ⊢
      unfold ph1
      by_cases h2 : σ 5 k = 2
      · rw [if_pos (by rw [e5, h2]), if_pos h2, if_pos (by rw [e5, h2]), ob2_e, nI_s]
      · have h2' : ¬ σ1 5 k = 2 := fun q => h2 (e5.symm.trans q)
        rw [if_neg h2', if_neg h2, if_neg h2']
        by_cases h0 : σ1 5 k = 0
        · by_cases h3 : τ 6 k = σ1 1 0
          · rw [if_pos h0, if_pos h3, ob1_e, cnd_T, w8 hI hk, ob1_e, c_ent hI hk hF, ob1_e, ob2_e, nI_s, if_pos ⟨h0, h3⟩]
          · rw [if_pos h0, if_neg h3, ob1_e, cnd_F, ob2_e, nI_s, if_neg (fun q => h3 q.2)]
        · rw [if_neg h0, ob1_e, cnd_F, ob2_e, nI_s, if_neg (fun q => h0 q.1)]
    · subst hx
      refine ⟨_, ?_, _, rfl, rfl⟩
      show mX2_passTick_L4 F τ (nI (Jn τ)) _ _ = _
      unfold mX2_passTick_L4
      rw [hJ.1, if_pos (Int32.le_refl _)]
  obtain ⟨_, l1, rfl⟩ := l1
  have l2 := fun v (σ : MS) => loop_up (f := fun st : Int32 × MS => mX2_passTick_L80 F v τ st.1 st.2) (fun _ _ => True) (ph2 τ) (fun v => v) (Jn τ) (fun j σ hj _ => ⟨by
    show mX2_passTick_L80 F v τ (nI j) σ = _
    unfold mX2_passTick_L80 ph2
    rw [hJ.1, if_neg (nle (by omega) (by omega) hj), r8 hI hj, ob1_e, c_move hI hj hF]
    by_cases h : σ 5 j = 1 <;> simp [h, ob1, nI_s], trivial⟩) (fun σ _ => by
    show mX2_passTick_L80 F v τ (nI (Jn τ)) σ = _
    unfold mX2_passTick_L80
    rw [hJ.1, if_pos (Int32.le_refl _)]) (Jn τ) 0 F σ (by omega) (by omega) trivial
  have l3 := fun (σ1 : MS) => loop_up (f := fun st : Int32 × MS => mX2_passTick_L114 F (mk8 (σ 5) (Jn τ)) τ st.1 st.2) (fun _ _ => True) (ph3 τ (σ 5)) (fun v => v) (Jn τ) (fun j σ1 hj _ => ⟨by
    show mX2_passTick_L114 F (mk8 (σ 5) (Jn τ)) τ (nI j) σ1 = _
    unfold mX2_passTick_L114 ph3
    rw [hJ.1, if_neg (nle (by omega) (by omega) hj), c_undo hI hj hF]
    have hb := mk8_bt (σ 5) (Jn τ) hJ.2 j (by omega)
    by_cases h : σ 5 j = 2
    · rw [if_pos h, if_pos (show (mk8 (σ 5) (Jn τ) >>> (nI j &&& 31)) &&& (1 : Int32) = 1 from hb.mpr ⟨hj, h⟩), ob1_e, ob1_e, nI_s]
    · rw [if_neg h, if_neg (show ¬ (mk8 (σ 5) (Jn τ) >>> (nI j &&& 31)) &&& (1 : Int32) = 1 from fun q => h (hb.mp q).2), ob1_e, nI_s], trivial⟩) (fun σ1 _ => by
    show mX2_passTick_L114 F (mk8 (σ 5) (Jn τ)) τ (nI (Jn τ)) σ1 = _
    unfold mX2_passTick_L114
    rw [hJ.1, if_pos (Int32.le_refl _)]) (Jn τ) 0 F σ1 (by omega) (by omega) trivial
  unfold mX2_passTick
  show ob2 (loopM _ F (nI 0, ((0 : Int32), σ))) _ = _
  rw [l1, ob2_e, i0, l2, ob1_e, l3, ob1_e, ob1_e]
  rfl
end CT

