/-! pure: one turn of the law -/
/-- what holds between two turns: both worlds, and the last eight of both -/
def MI (τ : MS) (B T : Int) (τs : WS) (n : Nat) (pa : PA) (υ : MS) (ω : WS) (sid : PA) (ζ κ : MS) (Φ Ψ : WS) (pb : Nat → Option Nat) (pζ pκ : WS) (pΦ pΨ : Nat → WS) (pc0 done : Nat) : Prop := τs (sid 0) = τ ∧ SDok sid n ∧ PAok pa ∧ PS τ B T (ω 0) ζ κ Φ Ψ ∧ (∀ x, x < 9 → ∀ id, pb x = some id → id < pc0) ∧ υ 1 0 = 0 ∧ ∃ u, u ≤ 8 ∧ υ 6 0 = nI u ∧ ∀ x, x < 8 → x < done → x < u ∧ τs (sid (pa (u - 1 - x))) = τ ∧ ∃ id, pb x = some id ∧ id < pc0 ∧ PS τ B T (ω (pa (u - 1 - x))) (pζ id) (pκ id) (pΦ id) (pΨ id)
theorem gOk_t {o : Option Nat} {c : Nat} (h : ∀ id, o = some id → id < c) : gOk o c = some () := by
  cases o with
  | none => rfl
  | some i => exact gLt_t (h i rfl)
theorem gOks_t {pb : Nat → Option Nat} {c : Nat} (h : ∀ x, x < 9 → ∀ id, pb x = some id → id < c) : gOks pb c = some () := by
  unfold gOks
  rw [if_pos]
  rw [List.all_eq_true]
  intro x hx
  have hx9 := List.mem_range.mp hx
  cases hp : pb x with
  | none => rfl
  | some i => exact decide_eq_true (h x hx9 i hp)
/-- those before, moved on -/
def shf (m : Nat) (pb : Nat → Option Nat) (x : Nat) : Option Nat := if m < x ∧ x ≤ 8 then pb (x - 1) else pb x
theorem shf_s {m : Nat} (hm : m < 8) (pb : Nat → Option Nat) : va_up (shf (m + 1) pb) (m + 1) (shf (m + 1) pb m) = shf m pb := by
  funext x
  by_cases h : x = m + 1
  · subst h
    rw [va_up_self]
    unfold shf
    rw [if_neg (by omega), if_pos (by omega), Nat.add_sub_cancel]
  · rw [va_up_ne _ _ h]
    unfold shf
    by_cases q : m + 1 < x ∧ x ≤ 8
    · rw [if_pos q, if_pos (by omega)]
    · rw [if_neg q, if_neg (by omega)]
theorem shf_l {f : Int32 × (Nat → Option Nat) → Option ((Nat → Option Nat) ⊕ (Int32 × (Nat → Option Nat)))} {pb : Nat → Option Nat} (h0 : ∀ p, f (nI 0, p) = some (.inl p)) (h1 : ∀ m, m < 8 → f (nI (m + 1), shf (m + 1) pb) = some (.inr (nI m, va_up (shf (m + 1) pb) (m + 1) (shf (m + 1) pb m)))) : ∀ (m fu : Nat), m ≤ 8 → m < fu → loopM f fu (nI m, shf m pb) = some (shf 0 pb) := by
  intro m
  induction m with
  | zero => intro fu _ h; exact loop_gol (h0 _) (by omega)
  | succ m ih =>
    intro fu hm h
    have e := h1 m (by omega)
    rw [shf_s (by omega)] at e
    exact (loop_gen e (by omega)).trans (ih (fu - 1) (by omega) (by omega))
theorem shf_8 (pb : Nat → Option Nat) : shf 8 pb = pb := by
  funext x
  unfold shf
  rw [if_neg (by omega)]
theorem nI_bb (m : Nat) (c : Bool) : nI m + b01 c = nI (m + if c then 1 else 0) := by
  cases c
  · simp [b01]
  · show nI m + 1 = _
    rw [nI_s]; rfl
theorem gLt_t_ok {c : Nat} : gOk (some c) (c + 1) = some () := gOk_t (fun id h => by cases h; exact Nat.lt_succ_self _)
section TU
variable {F n dn : Nat} {τs : WS} {pa : PA} {β : FS} {υ : MS} {ω : WS} {sid : PA} {B T : Int} {ζ κ : MS} {Φ Ψ : WS} {Ns : PA} {l9 l8 l2 : Int32} {b : FS} {sd : MS} {pb : Nat → Option Nat} {pζ pκ : WS} {pΦ pΨ : Nat → WS} {pc0 : Nat}
/-- the journey is drawn -/
theorem l_draw {f : Int32 × Option Nat × Int32 × MS → Option ((Option Nat × Int32 × MS) ⊕ (Int32 × Option Nat × Int32 × MS))} {τ σ : MS} {v : Option Nat} {w : Int32} (hI : SI τ) (h : LW τ σ ζ κ Φ Ψ) (hv : (v = none ∧ w = nI (Jn τ)) ∨ ∃ j, j < Jn τ ∧ v = some j ∧ w = nI j) (hf : ∀ k v w sd, f (k, v, w, sd) = mL_law_L264 F (Sn τ) (Jn τ) Ns (nI (Jn τ)) (-2000000097 : Int32) l9 l8 l2 τs n pa β υ ω sid b ζ κ Φ Ψ pb pζ pκ pΦ pΨ pc0 k v w sd) : ok (loopM f 10 ((0 : Int32), v, w, sd)) (fun r => (r.1 = none ∧ r.2.1 = nI (Jn τ)) ∨ ∃ j, j < Jn τ ∧ r.1 = some j ∧ r.2.1 = nI j) := by
  have hJ := hI.J
  refine loop_relX (f := f) (fun k (x : Option Nat × Int32 × MS) => (x.1 = none ∧ x.2.1 = nI (Jn τ)) ∨ ∃ j, j < Jn τ ∧ x.1 = some j ∧ x.2.1 = nI j) (Jn τ) (fun k x hk hR => ?_) (fun x hR => ?_) (Jn τ) 0 10 (v, w, sd) (by omega) (by omega) hv
  · obtain ⟨v, w, sd⟩ := x
    rw [hf]
    unfold mL_law_L264
    rw [if_neg (nle (by omega) (by omega) hk)]
    rcases hR with ⟨h1, h2⟩ | ⟨j, hj, h1, h2⟩
    · have h1 : v = none := h1
      subst h1
      exact ok_some (Or.inl ⟨_, rfl, Or.inl ⟨rfl, h2⟩⟩)
    · have h1 : v = some j := h1
      subst h1
      show ok (ob1 (gLt j (Jn τ)) _) _
      rw [gLt_t hj, ob1_e]
      refine ok_ite (fun _ => ok_some (Or.inl ⟨_, rfl, Or.inr ⟨j, hj, rfl, h2⟩⟩)) (fun _ => ?_)
      rw [hixn_at hk (by omega), ob1_e]
      refine ok_ob3 (ok_mono (P := fun x : Option Nat × Int32 × MS => ∃ j, j < Jn τ ∧ x.1 = some j ∧ x.2.1 = nI j) ?_ (fun x hx => ?_))
      · refine ok_ite (fun _ => ?_) (fun _ => ok_some ⟨j, hj, rfl, h2⟩)
        obtain ⟨q, sd2, -, e1⟩ := below_ok F sd (b := 2) (by decide) (by decide)
        rw [show mX4_below F sd (2 : Int32) = some (nI q, sd2) from e1, ob2_e]
        refine ok_ite (fun _ => ok_some ⟨j, hj, rfl, h2⟩) (fun _ => ?_)
        rw [ob1_e]
        exact ok_some ⟨k, hk, rfl, rfl⟩
      · rw [nI_s]
        exact ok_some (Or.inr ⟨_, rfl, Or.inr hx⟩)
  · obtain ⟨v, w, sd⟩ := x
    rw [hf]
    unfold mL_law_L264
    rw [if_pos (Int32.le_refl _)]
    exact ok_some ⟨_, rfl, hR⟩
theorem l_R188 {τ : MS} (hF : 5000 ≤ F) (hI : SI τ) (hM : SM τ) (hR16 : R16 τ) (hN : NR τ Ns) (hMI : MI τ B T τs n pa υ ω sid ζ κ Φ Ψ pb pζ pκ pΦ pΨ pc0 dn) (hB0 : 0 ≤ B) (hB : B ≤ 1900000000) (hT : 0 ≤ T) (hT2 : T + 24 ≤ 9999) : ok (mL_law_R188 F (Sn τ) (Jn τ) Ns l9 (nI dn) l2 τs n pa β υ ω sid b sd ζ κ Φ Ψ pb pζ pκ pΦ pΨ pc0) (fun r => r.1 = 1 ∧ ∃ dn', r.2.1 = nI dn' ∧ dn' ≤ dn + 1 ∧ MI τ (B + 200000) (T + 24) τs n r.2.2.1 r.2.2.2.1 r.2.2.2.2.1 r.2.2.2.2.2.1 r.2.2.2.2.2.2.2.1 r.2.2.2.2.2.2.2.2.1 r.2.2.2.2.2.2.2.2.2.1 r.2.2.2.2.2.2.2.2.2.2.1 r.2.2.2.2.2.2.2.2.2.2.2.1 r.2.2.2.2.2.2.2.2.2.2.2.2.1 r.2.2.2.2.2.2.2.2.2.2.2.2.2.1 r.2.2.2.2.2.2.2.2.2.2.2.2.2.2.1 r.2.2.2.2.2.2.2.2.2.2.2.2.2.2.2.1 r.2.2.2.2.2.2.2.2.2.2.2.2.2.2.2.2 dn') := by
  obtain ⟨hτ, hs, hp, hP, hpb, h10, u, hu, h6, hpast⟩ := hMI
  subst hτ
  have hJ := hI.J
  obtain ⟨q12, sd8, -, e1⟩ := below_ok F sd (b := 12) (by decide) (by decide)
  have hc : ∃ c : Bool, (ob1 (if nI q12 = 0 then some true else (if nI (Jn (τs (sid 0))) = 0 then some true else some false)) fun t15 => cnd t15 (some (1 : Int32)) (some (0 : Int32))) = some (b01 c) ∧ (Jn (τs (sid 0)) = 0 → c = true) := by
    by_cases q : nI q12 = 0
    · rw [if_pos q]; exact ⟨true, rfl, fun _ => rfl⟩
    · by_cases q2 : nI (Jn (τs (sid 0))) = 0
      · rw [if_neg q, if_pos q2]; exact ⟨true, rfl, fun _ => rfl⟩
      · rw [if_neg q, if_neg q2]; exact ⟨false, rfl, fun z => absurd (by rw [z]; rfl) q2⟩
  obtain ⟨c, e2, hc0⟩ := hc
  have hb1 : 1 ≤ Jn (τs (sid 0)) + if c then 1 else 0 := by
    by_cases z : Jn (τs (sid 0)) = 0
    · rw [hc0 z, if_pos rfl]; omega
    · omega
  have hb2 : (if c then 1 else 0) ≤ 1 := by cases c <;> decide
  obtain ⟨j0, sd20, hj0, e3⟩ := below_ok F sd8 (b := Jn (τs (sid 0)) + if c then 1 else 0) hb1 (by omega)
  have hv : ∃ v : Option Nat, (if nI (Jn (τs (sid 0))) ≤ nI j0 then some none else ob1 (hixn (Jn (τs (sid 0))) (nI j0)) fun j25 => some (some j25)) = some v ∧ ((v = none ∧ nI j0 = nI (Jn (τs (sid 0)))) ∨ ∃ j, j < Jn (τs (sid 0)) ∧ v = some j ∧ nI j0 = nI j) := by
    by_cases q : j0 < Jn (τs (sid 0))
    · rw [if_neg (nle (by omega) (by omega) q), hixn_at q (by omega), ob1_e]
      exact ⟨_, rfl, Or.inr ⟨j0, q, rfl, rfl⟩⟩
    · have : j0 = Jn (τs (sid 0)) := by omega
      subst this
      rw [if_pos (Int32.le_refl _)]
      exact ⟨_, rfl, Or.inl ⟨rfl, rfl⟩⟩
  obtain ⟨v, e4, hv⟩ := hv
  unfold mL_law_R188
  simp only [ob1_e]
  rw [gOks_t hpb, ob1_e, show mX4_below F sd (12 : Int32) = some (nI q12, sd8) from e1, ob2_e, e2, ob1_e, nI_bb, e3, ob2_e, e4, ob1_e]
  refine ok_ob3 (ok_mono (l_draw hI hP.1 hv (fun _ _ _ _ => rfl)) (fun x hx => ?_))
  obtain ⟨v68, v69, sd70⟩ := x
  dsimp only at hx ⊢
  refine ok_ob2 (ok_mono (P := fun x : Option Nat × Int32 => x.1 = v68 ∧ ((v68 = none ∧ x.2 = 0) ∨ ∃ j, v68 = some j ∧ x.2 = b01 (decide (ω 0 5 j = 5)))) ?_ (fun x hx2 => ?_))
  · rcases hx with ⟨h1, h2⟩ | ⟨j, hj, h1, h2⟩
    · subst h1
      exact ok_some ⟨rfl, Or.inl ⟨rfl, rfl⟩⟩
    · subst h1
      show ok (ob1 (gLt j (Jn (τs (sid 0)))) _) _
      rw [gLt_t hj, ob1_e, (hP.1.lj hj).2.2.1]
      by_cases q : ω 0 5 j = 5
      · rw [if_pos q]; exact ok_some ⟨rfl, Or.inr ⟨j, rfl, by rw [decide_eq_true q]; rfl⟩⟩
      · rw [if_neg q]; exact ok_some ⟨rfl, Or.inr ⟨j, rfl, by rw [decide_eq_false q]; rfl⟩⟩
  obtain ⟨v75, v76⟩ := x
  dsimp only at hx2 ⊢
  obtain ⟨rfl, hx2⟩ := hx2
  refine ok_ob2 (ok_mono (P := fun x : Option Nat × Int32 => TJ (τs (sid 0)) (ω 0) x.1 v69 v76 x.2) ?_ (fun x ht => ?_))
  · rcases hx with ⟨h1, h2⟩ | ⟨j, hj, h1, h2⟩
    · subst h1
      rcases hx2 with ⟨-, h3⟩ | ⟨j, h3, -⟩
      · exact ok_some (Or.inl ⟨rfl, h2, h3, rfl⟩)
      · cases h3
    · subst h1
      rcases hx2 with ⟨h3, -⟩ | ⟨j', h3, h4⟩
      · cases h3
      · cases h3
        exact ok_some (Or.inr ⟨j, hj, rfl, h2, h4, rfl⟩)
  obtain ⟨v83, v84⟩ := x
  dsimp only at ht ⊢
  refine ok_ob11 (ok_mono (l_R362 hF hs hp hu h6 hI hM hR16 hN hP hB0 hB hT hT2 ht) (fun x hx3 => ?_))
  obtain ⟨o88, o89, pa90, υ91, ω92, sid93, sd94, ζ95, κ96, Φ97, Ψ98⟩ := x
  dsimp only at hx3 ⊢
  obtain ⟨rfl, hSR⟩ := hx3
  rcases hSR with ⟨rfl, rfl, rfl, rfl, rfl, hP'⟩ | ⟨rfl, ω1, σ', hRM, rfl, hP'⟩
  · rw [if_pos rfl, ob2_e, if_neg n1, l_agrees hF hs.g hI hM hN hP'.1 (fun j hj => (hP'.2.1.2.1 j hj).2.1), ob1_e, if_neg n1, ob1_e, cnd_T, ob1_e]
    refine ok_some ?_
    dsimp only
    refine ⟨rfl, dn, rfl, by omega, rfl, hs, hp, hP', fun x hx id hid => Nat.lt_succ_of_lt (hpb x hx id hid), h10, u, hu, h6, fun x hx hxd => ?_⟩
    obtain ⟨p1, p2, id, p3, p4, p5⟩ := hpast x hx hxd
    refine ⟨p1, p2, id, p3, Nat.lt_succ_of_lt p4, ?_⟩
    rw [va_up_ne _ _ (Nat.ne_of_lt p4), va_up_ne _ _ (Nat.ne_of_lt p4), va_up_ne _ _ (Nat.ne_of_lt p4), va_up_ne _ _ (Nat.ne_of_lt p4)]
    exact p5.mono (by omega) (by omega)
  · obtain ⟨u1, b1, b2, b3, b4, b5, b6, b7, b8, b9, b10, b11, b12⟩ := hRM
    have e0 : va_up ω1 0 σ' 0 = σ' := va_up_self _ _ _
    have hτ1 : τs (sid93 0) = τs (sid 0) := by rw [b9]
    have hag : mL_agrees F (Sn (τs (sid 0))) (Jn (τs (sid 0))) Ns τs n pa90 β υ91 (va_up ω1 0 σ') sid93 ζ95 κ96 Φ97 Ψ98 = some 1 := by
      have := l_agrees (F := F) (τs := τs) (n := n) (pa := pa90) (β := β) (υ := υ91) (ω := va_up ω1 0 σ') (sid := sid93) (ζ := ζ95) (κ := κ96) (Φ := Φ97) (Ψ := Ψ98) (Ns := Ns) hF b6.g (by rw [hτ1]; exact hI) (by rw [hτ1]; exact hM) (by rw [hτ1]; exact hN) (by rw [hτ1, e0]; exact hP'.1) (fun j hj => by rw [hτ1] at hj; rw [e0]; exact (hP'.2.1.2.1 j hj).2.1)
      rw [hτ1] at this
      exact this
    have hsh : ∀ {f : Int32 × (Nat → Option Nat) → Option ((Nat → Option Nat) ⊕ (Int32 × (Nat → Option Nat)))}, (∀ v p, f (v, p) = mL_law_L963 F (Sn (τs (sid 0))) (Jn (τs (sid 0))) Ns l9 (nI dn) l2 1 τs n pa90 β υ91 (va_up ω1 0 σ') sid93 b sd94 ζ95 κ96 Φ97 Ψ98 (va_up pζ pc0 ζ) (va_up pκ pc0 κ) (va_up pΦ pc0 Φ) (va_up pΨ pc0 Ψ) (pc0 + 1) v p) → loopM f 10 ((8 : Int32), pb) = some (shf 0 pb) := fun {f} hf => by
      have := shf_l (f := f) (pb := pb) (fun p => by
        rw [hf]
        unfold mL_law_L963
        rw [if_pos (by decide)]) (fun m hm => by
        rw [hf]
        unfold mL_law_L963
        have e9 : nI (m + 1) - 1 = nI m := nI_pred m
        have hid : ∀ id, shf (m + 1) pb m = some id → id < pc0 + 1 := fun id h => by
          unfold shf at h
          rw [if_neg (by omega)] at h
          exact Nat.lt_succ_of_lt (hpb m (by omega) id h)
        rw [if_neg (fun z => by rw [nI_le0 (by omega)] at z; omega), e9, hixn_at (show m < 9 by omega) (by decide), ob1_e, hixn_at (show m + 1 < 9 by omega) (by decide), ob1_e, gOk_t hid, ob1_e, ob1_e, nI_m1' (by omega), Nat.add_sub_cancel]) 8 10 (Nat.le_refl _) (by decide)
      rw [shf_8] at this
      exact this
    rw [if_neg n1, hsh (fun _ _ => rfl), ob1_e, show hixn 9 (0 : Int32) = some 0 from hixn_at (i := 0) (by decide) (by decide), ob1_e, gLt_t_ok, ob1_e, ob2_e, if_neg n1, hag, ob1_e, if_neg n1, ob1_e, cnd_T, ob1_e, nI_s]
    refine ok_some ?_
    dsimp only
    refine ⟨rfl, dn + 1, rfl, Nat.le_refl _, hτ1, b6, b7, by rw [e0]; exact hP', fun x hx id hid => ?_, by rw [b5 1 (by decide)]; exact h10, u1, b1, b4, fun x hx hxd => ?_⟩
    · by_cases q : x = 0
      · subst q
        rw [va_up_self] at hid
        cases hid
        exact Nat.lt_succ_self _
      · rw [va_up_ne _ _ q] at hid
        unfold shf at hid
        split at hid
        · exact Nat.lt_succ_of_lt (hpb (x - 1) (by omega) id hid)
        · exact Nat.lt_succ_of_lt (hpb x hx id hid)
    · cases x with
      | zero =>
        have hpv := b7.1 (u1 - 1) (by omega)
        refine ⟨by omega, ?_, pc0, va_up_self _ _ _, Nat.lt_succ_self _, ?_⟩
        · rw [show u1 - 1 - 0 = u1 - 1 from rfl, b10]
        · rw [show u1 - 1 - 0 = u1 - 1 from rfl, va_up_ne _ _ (show pa90 (u1 - 1) ≠ 0 by omega), va_up_self, va_up_self, va_up_self, va_up_self]
          exact (hP.mono (by omega) (by omega)).cpy b11
      | succ x =>
        obtain ⟨p1, p2, id, p3, p4, p5⟩ := hpast x (by omega) (by omega)
        have hxu : x + 1 < u1 := by
          rw [b3]
          split <;> omega
        obtain ⟨c1, c2, c3⟩ := b12 x hxu
        have hpv := b7.1 (u1 - 1 - (x + 1)) (by omega)
        refine ⟨hxu, by rw [c2]; exact p2, id, ?_, Nat.lt_succ_of_lt p4, ?_⟩
        · rw [va_up_ne _ _ (by omega)]
          unfold shf
          rw [if_pos (by omega), Nat.add_sub_cancel]
          exact p3
        · rw [va_up_ne _ _ (show pa90 (u1 - 1 - (x + 1)) ≠ 0 by omega), c3, va_up_ne _ _ (Nat.ne_of_lt p4), va_up_ne _ _ (Nat.ne_of_lt p4), va_up_ne _ _ (Nat.ne_of_lt p4), va_up_ne _ _ (Nat.ne_of_lt p4)]
          exact p5.mono (by omega) (by omega)
end TU
