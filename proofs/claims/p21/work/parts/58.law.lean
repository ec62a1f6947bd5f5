/-! pure: the law, but for the random world -/
/-- what a random world must be -/
def RWQ (r : PA × FS × MS × WS × PA × WS × Nat × FS × MS × MS × MS × Nat × Nat × PA × WS × WS) : Prop := ∃ τ, r.2.2.2.2.2.1 (r.2.2.2.2.1 0) = τ ∧ r.2.2.2.2.2.2.2.2.2.2.2.1 = Sn τ ∧ r.2.2.2.2.2.2.2.2.2.2.2.2.1 = Jn τ ∧ NR τ r.2.2.2.2.2.2.2.2.2.2.2.2.2.1 ∧ SI τ ∧ SM τ ∧ R16 τ ∧ SDok r.2.2.2.2.1 r.2.2.2.2.2.2.1 ∧ PAok r.1 ∧ PS τ 10000 0 (r.2.2.2.1 0) r.2.2.2.2.2.2.2.2.2.1 r.2.2.2.2.2.2.2.2.2.2.1 r.2.2.2.2.2.2.2.2.2.2.2.2.2.2.1 r.2.2.2.2.2.2.2.2.2.2.2.2.2.2.2 ∧ r.2.2.1 1 0 = 0 ∧ ∃ u, u ≤ 8 ∧ r.2.2.1 6 0 = nI u
def RWok (F : Nat) : Prop := ∀ (pa : PA) (υ : MS) (ω : WS) (sid : PA) (u : Nat) (x : Int32), PAok pa → SDok sid 1 → u ≤ 8 → υ 6 0 = nI u → υ 1 0 = 0 → ok (mL_randomWorld F (fun _ => τ0) 1 pa (fun _ => 0) υ ω sid (fun _ => 0) (fun _ _ => x)) RWQ
section LA
variable {F n dn : Nat} {τs : WS} {pa : PA} {β : FS} {υ : MS} {ω : WS} {sid : PA} {B T : Int} {ζ κ : MS} {Φ Ψ : WS} {Ns : PA} {l9 l8 l2 : Int32} {b : FS} {sd : MS} {pb : Nat → Option Nat} {pζ pκ : WS} {pΦ pΨ : Nat → WS} {pc0 : Nat}
theorem ok_ob5 {α1 α2 α3 α4 α5 γ : Type} {m : Option (α1 × α2 × α3 × α4 × α5)} {f : α1 → α2 → α3 → α4 → α5 → Option γ} {Q : γ → Prop} (h : ok m (fun x => ok (f x.1 x.2.1 x.2.2.1 x.2.2.2.1 x.2.2.2.2) Q)) : ok (ob5 m f) Q := ok_ob1 h
theorem ok_ob16 {α1 α2 α3 α4 α5 α6 α7 α8 α9 α10 α11 α12 α13 α14 α15 α16 γ : Type} {m : Option (α1 × α2 × α3 × α4 × α5 × α6 × α7 × α8 × α9 × α10 × α11 × α12 × α13 × α14 × α15 × α16)} {f : α1 → α2 → α3 → α4 → α5 → α6 → α7 → α8 → α9 → α10 → α11 → α12 → α13 → α14 → α15 → α16 → Option γ} {Q : γ → Prop} (h : ok m (fun x => ok (f x.1 x.2.1 x.2.2.1 x.2.2.2.1 x.2.2.2.2.1 x.2.2.2.2.2.1 x.2.2.2.2.2.2.1 x.2.2.2.2.2.2.2.1 x.2.2.2.2.2.2.2.2.1 x.2.2.2.2.2.2.2.2.2.1 x.2.2.2.2.2.2.2.2.2.2.1 x.2.2.2.2.2.2.2.2.2.2.2.1 x.2.2.2.2.2.2.2.2.2.2.2.2.1 x.2.2.2.2.2.2.2.2.2.2.2.2.2.1 x.2.2.2.2.2.2.2.2.2.2.2.2.2.2.1 x.2.2.2.2.2.2.2.2.2.2.2.2.2.2.2) Q)) : ok (ob16 m f) Q := ok_ob1 h
/-- thirty-five turns -/
theorem l_turns {τ : MS} {f : Int32 × Int32 × Int32 × PA × MS × WS × PA × MS × MS × MS × WS × WS × (Nat → Option Nat) × WS × WS × (Nat → WS) × (Nat → WS) × Nat → Option ((Int32 × Int32 × PA × MS × WS × PA × MS × MS × MS × WS × WS × (Nat → Option Nat) × WS × WS × (Nat → WS) × (Nat → WS) × Nat) ⊕ (Int32 × Int32 × Int32 × PA × MS × WS × PA × MS × MS × MS × WS × WS × (Nat → Option Nat) × WS × WS × (Nat → WS) × (Nat → WS) × Nat))} (hF : 5000 ≤ F) (hI : SI τ) (hM : SM τ) (hR16 : R16 τ) (hN : NR τ Ns) (hf : ∀ k v w pa υ ω sid sd ζ κ Φ Ψ pb pζ pκ pΦ pΨ pc0, f (k, v, w, pa, υ, ω, sid, sd, ζ, κ, Φ, Ψ, pb, pζ, pκ, pΦ, pΨ, pc0) = mL_law_L177 F (Sn τ) (Jn τ) Ns l2 τs n β b k v w pa υ ω sid sd ζ κ Φ Ψ pb pζ pκ pΦ pΨ pc0) (h : MI τ 10000 0 τs n pa υ ω sid ζ κ Φ Ψ pb pζ pκ pΦ pΨ pc0 0) : ok (loopM f 36 ((0 : Int32), (0 : Int32), (1 : Int32), pa, υ, ω, sid, sd, ζ, κ, Φ, Ψ, pb, pζ, pκ, pΦ, pΨ, pc0)) (fun r => r.2.1 = 1 ∧ ∃ (dn : Nat) (B T : Int), dn ≤ 35 ∧ r.1 = nI dn ∧ MI τ B T τs n r.2.2.1 r.2.2.2.1 r.2.2.2.2.1 r.2.2.2.2.2.1 r.2.2.2.2.2.2.2.1 r.2.2.2.2.2.2.2.2.1 r.2.2.2.2.2.2.2.2.2.1 r.2.2.2.2.2.2.2.2.2.2.1 r.2.2.2.2.2.2.2.2.2.2.2.1 r.2.2.2.2.2.2.2.2.2.2.2.2.1 r.2.2.2.2.2.2.2.2.2.2.2.2.2.1 r.2.2.2.2.2.2.2.2.2.2.2.2.2.2.1 r.2.2.2.2.2.2.2.2.2.2.2.2.2.2.2.1 r.2.2.2.2.2.2.2.2.2.2.2.2.2.2.2.2 dn) := by
  refine loop_rel (f := f) (fun k (r : Int32 × Int32 × PA × MS × WS × PA × MS × MS × MS × WS × WS × (Nat → Option Nat) × WS × WS × (Nat → WS) × (Nat → WS) × Nat) => r.2.1 = 1 ∧ ∃ (dn : Nat), dn ≤ k ∧ r.1 = nI dn ∧ MI τ (10000 + 200000 * (k : Int)) (24 * (k : Int)) τs n r.2.2.1 r.2.2.2.1 r.2.2.2.2.1 r.2.2.2.2.2.1 r.2.2.2.2.2.2.2.1 r.2.2.2.2.2.2.2.2.1 r.2.2.2.2.2.2.2.2.2.1 r.2.2.2.2.2.2.2.2.2.2.1 r.2.2.2.2.2.2.2.2.2.2.2.1 r.2.2.2.2.2.2.2.2.2.2.2.2.1 r.2.2.2.2.2.2.2.2.2.2.2.2.2.1 r.2.2.2.2.2.2.2.2.2.2.2.2.2.2.1 r.2.2.2.2.2.2.2.2.2.2.2.2.2.2.2.1 r.2.2.2.2.2.2.2.2.2.2.2.2.2.2.2.2 dn) 35 (fun k x hk hR => ?_) (fun x hR => ?_) 35 0 36 (0, 1, pa, υ, ω, sid, sd, ζ, κ, Φ, Ψ, pb, pζ, pκ, pΦ, pΨ, pc0) (by omega) (by omega) ⟨rfl, 0, Nat.le_refl _, rfl, by rw [show 10000 + 200000 * ((0 : Nat) : Int) = 10000 from rfl, show 24 * ((0 : Nat) : Int) = 0 from rfl]; exact h⟩
  · obtain ⟨v, w, pa, υ, ω, sid, sd, ζ, κ, Φ, Ψ, pb, pζ, pκ, pΦ, pΨ, pc0⟩ := x
    obtain ⟨h1, dn, h2, h3, h4⟩ := hR
    have h1 : w = 1 := h1
    have h3 : v = nI dn := h3
    subst h1 h3
    dsimp only at h4
    rw [hf]
    unfold mL_law_L177
    rw [if_neg (i32_nle (c := 35) (b := 35) rfl (by omega) (by decide) hk), if_neg n1, ob1_e, cnd_T]
    refine ok_ob17 (ok_mono (l_R188 hF hI hM hR16 hN h4 (by omega) (by omega) (by omega) (by omega)) (fun r hr => ?_))
    obtain ⟨e1, dn', e2, e3, e4⟩ := hr
    rw [nI_s]
    refine ok_some ⟨_, rfl, e1, dn', by omega, e2, ?_⟩
    rw [show 10000 + 200000 * ((k + 1 : Nat) : Int) = 10000 + 200000 * (k : Int) + 200000 by omega, show 24 * ((k + 1 : Nat) : Int) = 24 * (k : Int) + 24 by omega]
    exact e4
  · obtain ⟨v, w, pa, υ, ω, sid, sd, ζ, κ, Φ, Ψ, pb, pζ, pκ, pΦ, pΨ, pc0⟩ := x
    obtain ⟨h1, dn, h2, h3, h4⟩ := hR
    rw [hf]
    unfold mL_law_L177
    rw [if_pos (by decide), ob1_e, cnd_F]
    exact ok_some ⟨_, rfl, h1, dn, _, _, h2, h3, h4⟩
/-- the calls on a new object -/
theorem l_first (hF : 5000 ≤ F) (hrw : RWok F) {xs : FS} {L i : Nat} (hi : i < L) (hL : L ≤ 260) : ok (mL_law_R19 F xs L (nI i)) (fun r => r = 1) := by
  have hs0 : SDok (fun _ => 0) 1 := fun v _ => Nat.zero_lt_one
  have hp0 : PAok (fun k => k + 2) := ⟨fun j hj => ⟨by show 2 ≤ j + 2; omega, by show j + 2 < 10; omega⟩, fun i j _ _ h => Nat.add_right_cancel h⟩
  have hag : mL_agrees F 0 0 (fun _ => 0) (fun _ => τ0) 1 (fun k => k + 2) (fun _ => 0) υ0 (fun _ => σ0) (fun _ => 0) ζ0 (fun _ _ => 0) (fun _ _ _ => 0) (fun _ _ _ => 0) = some 1 := by
    have := l_agrees (F := F) (τs := fun _ => τ0) (n := 1) (pa := fun k => k + 2) (β := fun _ => 0) (υ := υ0) (ω := fun _ => σ0) (sid := fun _ => 0) (ζ := ζ0) (κ := fun _ _ => 0) (Φ := fun _ _ _ => 0) (Ψ := fun _ _ _ => 0) (Ns := fun _ => 0) hF hs0.g SI_0 SM_0 (NR_0 _) (LW_0 _ _ _) (fun j hj => absurd hj (by rw [Jn_0]; omega))
    rw [show Sn ((fun _ : Nat => τ0) ((fun _ : Nat => 0) 0)) = 0 from Sn_0, show Jn ((fun _ : Nat => τ0) ((fun _ : Nat => 0) 0)) = 0 from Jn_0] at this
    exact this
  have hu0 : mX3_undo F (fun _ => τ0) 1 (fun k => k + 2) (fun _ => 0) υ0 (fun _ => σ0) (fun _ => 0) = some (-1, υ0, (fun _ => σ0), (fun _ => 0)) := undo_0 rfl
  obtain ⟨pa1, υ1, ω1, sid1, r1, r2⟩ := rem_c (F := F) (τs := fun _ => τ0) (β := fun _ => 0) (ω := fun _ => σ0) (υ := υ0) (u := 0) hF hs0 hp0 (by decide) rfl
  have hpass := c_passR (F := F) (B := 10000) (T := 0) (t := 9) hF hs0 (τs := fun _ => τ0) SI_0 (by decide) (by decide) (WI_0 (by decide)) (by decide) (by decide) (by decide) r1 r2
  rw [jin_0, jin_0, jin_0, jin_0, show (0 + 0 - (0 + 0) : Int32) = 0 from by decide] at hpass
  obtain ⟨u1, b1, b2, b3, b4, b5, b6, b7, b8, b9, b10, b11, b12⟩ := id r2
  have b3 : u1 = 1 := b3
  subst b3
  obtain ⟨σ1, c1, c2⟩ := undo_c (F := F) (τs := fun _ => τ0) (β := fun _ => 0) (ω := va_up ω1 0 (runT τ0 stN 9 σ0)) b6 b7 (by decide) (by decide) b4
  rw [show 1 - 1 = 0 from rfl] at c1
  have hpv := b7.1 0 (by decide)
  have hs2 : SDok (va_up sid1 0 (sid1 (pa1 0))) 1 := fun v hv => by
    by_cases q : v = 0
    · subst q; rw [va_up_self]; exact b6 _ hpv.2
    · rw [va_up_ne _ _ q]; exact b6 v hv
  have hres := c_restX (F := F) (τs := fun _ => τ0) (pa := pa1) (β := fun _ => 0) (υ := pf υ1 6 (nI 0)) (ω := va_up (va_up ω1 0 (runT τ0 stN 9 σ0)) 0 σ1) hs2.g SI_0 (1 : Int32)
  rw [Sn_0] at hres
  have hset := c_setX (F := F) (τs := fun _ => τ0) (pa := pa1) (β := fun _ => 0) (υ := pf υ1 6 (nI 0)) (ω := va_up (va_up ω1 0 (runT τ0 stN 9 σ0)) 0 σ1) hs2.g SI_0
  rw [Jn_0] at hset
  unfold mL_law_R19
  rw [rd_at hi (by omega), ob1_e, hag, ob1_e, if_neg n1]
  have he : mX3_errorOffset F (fun _ => τ0) 1 (fun k => k + 2) (fun _ => 0) υ0 (fun _ => σ0) (fun _ => 0) = some (-1) := rfl
  rw [he, ob1_e, if_pos rfl, hu0, ob4_e, if_pos rfl, show mX3_pass F (fun _ => τ0) 1 (fun k => k + 2) (fun _ => 0) υ0 (fun _ => σ0) (fun _ => 0) (0 : Int32) = _ from c_passA, hEl_L (by simp)]
  simp only [ob1_e, xE_L, xV_L, xC1, if_true]
  rw [show mX3_pass F (fun _ => τ0) 1 (fun k => k + 2) (fun _ => 0) υ0 (fun _ => σ0) (fun _ => 0) (9 : Int32) = _ from hpass, hEl_R]
  simp only [ob1_e, xE_R, xV_R, if_true]
  rw [c1, ob4_e, if_pos (show nI 0 = 0 from rfl), show mX3_restock F (fun _ => τ0) 1 pa1 (fun _ => 0) (pf υ1 6 (nI 0)) (va_up (va_up ω1 0 (runT τ0 stN 9 σ0)) 0 σ1) (va_up sid1 0 (sid1 (pa1 0))) (0 : Int32) (1 : Int32) = _ from hres, hEl_L (by simp)]
  simp only [ob1_e, xE_L, xV_L, xC2, if_true]
  rw [show mX3_settle F (fun _ => τ0) 1 pa1 (fun _ => 0) (pf υ1 6 (nI 0)) (va_up (va_up ω1 0 (runT τ0 stN 9 σ0)) 0 σ1) (va_up sid1 0 (sid1 (pa1 0))) (0 : Int32) = _ from hset, hEl_L (by simp)]
  simp only [ob1_e, xE_L, xV_L, xC5, if_true]
  refine ok_ob5 (ok_some ?_)
  dsimp only
  refine ok_ob16 (ok_mono (hrw pa1 (pf υ1 6 (nI 0)) _ (va_up sid1 0 (sid1 (pa1 0))) 0 (xs i) b7 hs2 (by decide) (by rw [pf_at, if_pos rfl]) (by rw [pf_n _ _ _ _ _ (by decide), b5 1 (by decide)]; rfl)) (fun r hr => ?_))
  obtain ⟨pa64, β65, υ66, ω67, sid68, τs69, n70, b71, sd72, ζ73, κ74, K, mT, Ns, Φ75, Ψ76⟩ := r
  obtain ⟨τ, q1, q2, q3, q4, q5, q6, q7, q8, q9, q10, q11, u, q12, q13⟩ := hr
  dsimp only at q1 q2 q3 q4 q5 q6 q7 q8 q9 q10 q11 q12 q13 ⊢
  subst q2 q3
  have hgN : gNs (Jn τ) Ns = some () := by
    unfold gNs
    rw [if_pos]
    rw [List.all_eq_true]
    intro k hk
    have hk2 := List.mem_range.mp hk
    have := q6.2.2 k hk2
    rw [q4 k hk2]
    exact decide_eq_true (by omega)
  have hag2 : mL_agrees F (Sn τ) (Jn τ) Ns τs69 n70 pa64 β65 υ66 ω67 sid68 ζ73 κ74 Φ75 Ψ76 = some 1 := by
    have := l_agrees (F := F) (τs := τs69) (n := n70) (pa := pa64) (β := β65) (υ := υ66) (ω := ω67) (sid := sid68) (ζ := ζ73) (κ := κ74) (Φ := Φ75) (Ψ := Ψ76) (Ns := Ns) hF q8.g (by rw [q1]; exact q5) (by rw [q1]; exact q6) (by rw [q1]; exact q4) (by rw [q1]; exact q10.1) (fun j hj => by rw [q1] at hj; exact (q10.2.1.2.1 j hj).2.1)
    rw [q1] at this
    exact this
  have hS := q6.1
  have hJ := q6.2.1
  rw [gLt_t (show Sn τ < 7 by omega), ob1_e, gLt_t (show Jn τ < 9 by omega), ob1_e, hgN, ob1_e, if_neg n1, hag2, ob1_e, if_neg n1, ob1_e, cnd_T, ob1_e]
  refine ok_ob17 (ok_mono (l_turns hF q5 q6 q7 q4 (fun _ _ _ _ _ _ _ _ _ _ _ _ _ _ _ _ _ _ => rfl) ⟨q1, q8, q9, q10, fun x _ id h => (by cases h), q11, u, q12, q13, fun x _ h => absurd h (by omega)⟩) (fun r hr => ?_))
  obtain ⟨e1, dn, B, T, e2, e3, e4⟩ := hr
  rw [e1, e3]
  refine ok_ob7 (ok_mono (l_R1020 hF q5 q6 q4 (by omega) e4) (fun r hr => ok_some hr))
/-- the law's answer, if its random worlds are -/
theorem p_of (hrw : RWok 5000) (xs : Nat → Int32) (L : Nat) (hL : L ≤ 260) : ∃ fu, mL_law fu xs L = some 1 := by
  refine ⟨5000, ?_⟩
  have key : ok (mL_law 5000 xs L) (fun r => r = 1) := by
    unfold mL_law
    refine ok_ob1 (ok_mono (P := fun r => r = 1) ?_ (fun r hr => ok_some hr))
    refine loop_relX (fun _ (v : Int32) => v = 1) 2 (fun k x hk hx => ?_) (fun x hx => ?_) 2 0 3 1 (by omega) (by omega) rfl
    · subst hx
      dsimp only
      unfold mL_law_L4
      by_cases q : k < L
      · rw [show Int32.ofNat L = nI L from rfl, if_neg (nle (by omega) (by omega) q), if_neg (i32_nle (c := 2) (b := 2) rfl (by omega) (by decide) hk), if_neg n1, ob1_e, cnd_T]
        obtain ⟨r, e1, rfl⟩ := l_first (F := 5000) (xs := xs) (Nat.le_refl _) hrw q hL
        rw [e1, ob1_e, nI_s]
        exact ok_some (Or.inr ⟨_, rfl, rfl⟩)
      · rw [show Int32.ofNat L = nI L from rfl, if_pos ((nI_leI (by omega) (by omega)).mpr (by omega)), ob1_e, cnd_F]
        exact ok_some (Or.inl ⟨_, rfl, rfl⟩)
    · subst hx
      dsimp only
      unfold mL_law_L4
      by_cases q : 2 < L
      · rw [show Int32.ofNat L = nI L from rfl, if_neg (nle (by omega) (by omega) q), if_pos (by decide), ob1_e, cnd_F]
        exact ok_some ⟨_, rfl, rfl⟩
      · rw [show Int32.ofNat L = nI L from rfl, if_pos ((nI_leI (by omega) (by omega)).mpr (by omega)), ob1_e, cnd_F]
        exact ok_some ⟨_, rfl, rfl⟩
  obtain ⟨r, e, rfl⟩ := key
  exact e
end LA
