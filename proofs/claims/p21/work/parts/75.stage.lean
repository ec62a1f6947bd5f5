/-! pure: a stage and a journey are drawn and written -/
theorem ok_ob6 {α1 α2 α3 α4 α5 α6 γ : Type} {m : Option (α1 × α2 × α3 × α4 × α5 × α6)} {f : α1 → α2 → α3 → α4 → α5 → α6 → Option γ} {Q : γ → Prop} (h : ok m (fun x => ok (f x.1 x.2.1 x.2.2.1 x.2.2.2.1 x.2.2.2.2.1 x.2.2.2.2.2) Q)) : ok (ob6 m f) Q := ok_ob1 h
def np (E : Nat → Nat) : Nat → Nat → Nat
  | 0 => E
  | s + 1 => fun r => max (E r) (4 + gf E s r)
theorem gf_np (E : Nat → Nat) : ∀ s, gf E s = stf (np E s)
  | 0 => rfl
  | _ + 1 => rfl
theorem np_ge (E : Nat → Nat) (r : Nat) : ∀ s, E r ≤ np E s r
  | 0 => Nat.le_refl _
  | s + 1 => Nat.le_max_left _ _
def qf (N : Nat → Nat) (many k r : Nat) : Nat := if k = 0 then (if many = 1 then 1 + t1f N r else 1 + lsf r + N (itn 8 r)) else if many = 1 ∧ k = 1 then max (N r) (5 + t2f N r) else if many = 1 ∧ k = 2 then max (N r) (5 + t3f N r) else N r
theorem qf_N (N : Nat → Nat) (many k r : Nat) (hk : 1 ≤ k) : N r ≤ qf N many k r := by
  unfold qf
  rw [if_neg (by omega)]
  split
  · exact Nat.le_max_left _ _
  · split
    · exact Nat.le_max_left _ _
    · exact Nat.le_refl _
theorem qf_s (N : Nat → Nat) (many k r : Nat) (hk : k ≤ 2) (hm : k = 0 ∨ many = 1) : (if k = 0 then 1 else 5) + lsf r + qf N many (k + 1) (itn 8 r) ≤ qf N many k r := by
  unfold qf
  match k, hk with
  | 0, _ =>
    simp only [if_true, if_false, Nat.zero_add, show ¬ (1 : Nat) = 0 by decide, and_true]
    by_cases q : many = 1
    · rw [if_pos q, if_pos q]
      unfold t1f
      omega
    · rw [if_neg q, if_neg q, if_neg (by omega)]
      exact Nat.le_refl _
  | 1, _ =>
    have q : many = 1 := by omega
    simp only [q, if_true, if_false, show ¬ (1 : Nat) = 0 by decide, show ¬ (1 + 1 : Nat) = 0 by decide, show ¬ (1 + 1 : Nat) = 1 by decide, and_true, and_false, show (1 + 1 : Nat) = 2 by decide]
    have : 5 + t2f N r ≤ max (N r) (5 + t2f N r) := Nat.le_max_right _ _
    unfold t2f at this ⊢
    omega
  | 2, _ =>
    have q : many = 1 := by omega
    simp only [q, if_true, if_false, show ¬ (2 : Nat) = 0 by decide, show ¬ (2 + 1 : Nat) = 0 by decide, show ¬ (2 + 1 : Nat) = 1 by decide, show ¬ (2 : Nat) = 1 by decide, show ¬ (2 + 1 : Nat) = 2 by decide, and_true, and_false]
    have : 5 + t3f N r ≤ max (N r) (5 + t3f N r) := Nat.le_max_right _ _
    unfold t3f at this ⊢
    omega
  | k + 3, h => exact absurd h (by omega)
def pre (k g : Nat) : List Nat := if k = 0 ∧ g ≠ 0 then sN 14 else []
def JSt (K : Nat) (ψ : MS) (nS : Nat) : Prop := (∀ x, x < nS → UniOK K (ψ x) ∧ cps ψ x ≤ 2) ∧ (1 ≤ nS → nv (ψ 0 0) = 0) ∧ ∀ x, x + 1 < nS → nv (ψ (x + 1) 0) = nv (ψ x 0) ∨ nv (ψ (x + 1) 0) = nv (ψ x 0) + 1
def LGs (g k : Nat) (ψ : MS) (nS : Nat) : Prop := (k = 0 ∧ g = 0 ∧ nS = 0) ∨ (k = 0 ∧ 1 ≤ g ∧ 1 ≤ nS ∧ nv (ψ (nS - 1) 0) + 1 = g) ∨ (1 ≤ k ∧ 1 ≤ nS ∧ nv (ψ (nS - 1) 0) = g ∧ cps ψ (nS - 1) + 1 = k)
theorem stR_congr {f f' : Nat → FS} : ∀ n i, (∀ x, x < i + n → f x = f' x) → stR f i n = stR f' i n
  | 0, _, _ => rfl
  | n + 1, i, h => by
    show tSep f i ++ (tBod (f i) ++ stR f (i + 1) n) = tSep f' i ++ (tBod (f' i) ++ stR f' (i + 1) n)
    have e : tSep f i = tSep f' i := by
      unfold tSep
      rw [h i (by omega), h (i - 1) (by omega)]
    rw [e, h i (by omega), stR_congr n (i + 1) (fun x hx => h x (by omega))]
theorem cps_congr {f f' : Nat → FS} : ∀ x, (∀ y, y ≤ x → f y = f' y) → cps f x = cps f' x
  | 0, _ => rfl
  | x + 1, h => by
    show (if nv (f (x + 1) 0) = nv (f x 0) then cps f x + 1 else 0) = (if nv (f' (x + 1) 0) = nv (f' x 0) then cps f' x + 1 else 0)
    rw [h (x + 1) (Nat.le_refl _), h x (by omega), cps_congr x (fun y hy => h y (by omega))]
theorem JSt.step {K g k nS : Nat} {ψ : MS} {f : FS} (h : JSt K ψ nS) (hL : LGs g k ψ nS) (hf : UniOK K f) (hg : nv (f 0) = g) (hk : k ≤ 2) : JSt K (va_up ψ nS f) (nS + 1) ∧ LGs g (k + 1) (va_up ψ nS f) (nS + 1) ∧ stR (va_up ψ nS f) 0 (nS + 1) = stR ψ 0 nS ++ (pre k g ++ (sepK k ++ tBod f)) := by
  obtain ⟨h1, h2, h3⟩ := h
  have lo : ∀ x, x < nS → va_up ψ nS f x = ψ x := fun x hx => va_up_ne _ _ (by omega)
  have hi : va_up ψ nS f nS = f := va_up_self ..
  have hlast : 1 ≤ nS → va_up ψ nS f (nS - 1) = ψ (nS - 1) := fun z => lo _ (by omega)
  have hcl : ∀ x, x < nS → cps (va_up ψ nS f) x = cps ψ x := fun x hx => cps_congr x fun y hy => lo y (by omega)
  have hcn : cps (va_up ψ nS f) nS = k := by
    rcases hL with ⟨a, b, c⟩ | ⟨a, b, c, d⟩ | ⟨a, b, c, d⟩
    · subst c; rw [a]; rfl
    · obtain ⟨m, rfl⟩ : ∃ m, nS = m + 1 := ⟨nS - 1, by omega⟩
      show (if nv (va_up ψ (m + 1) f (m + 1) 0) = nv (va_up ψ (m + 1) f m 0) then _ else 0) = k
      rw [hi, lo m (by omega), hg, if_neg (by rw [Nat.add_sub_cancel] at d; omega), a]
    · obtain ⟨m, rfl⟩ : ∃ m, nS = m + 1 := ⟨nS - 1, by omega⟩
      show (if nv (va_up ψ (m + 1) f (m + 1) 0) = nv (va_up ψ (m + 1) f m 0) then cps (va_up ψ (m + 1) f) m + 1 else 0) = k
      rw [Nat.add_sub_cancel] at c d
      rw [hi, lo m (by omega), hg, if_pos c.symm, hcl m (by omega), d]
  refine ⟨⟨fun x hx => ?_, fun _ => ?_, fun x hx => ?_⟩, Or.inr (Or.inr ⟨by omega, by omega, ?_, ?_⟩), ?_⟩
  · by_cases q : x = nS
    · subst q; rw [hi, hcn]; exact ⟨hf, hk⟩
    · rw [lo x (by omega), hcl x (by omega)]; exact h1 x (by omega)
  · by_cases q : nS = 0
    · subst q
      rw [hi, hg]
      rcases hL with ⟨a, b, c⟩ | ⟨a, b, c, d⟩ | ⟨a, b, c, d⟩ <;> omega
    · rw [lo 0 (by omega)]; exact h2 (by omega)
  · by_cases q : x + 1 = nS
    · subst q
      rw [hi, lo x (by omega), hg]
      unfold LGs at hL
      rw [Nat.add_sub_cancel] at hL
      rcases hL with ⟨a, b, c⟩ | ⟨a, b, c, d⟩ | ⟨a, b, c, d⟩ <;> omega
    · rw [lo (x + 1) (by omega), lo x (by omega)]; exact h3 x (by omega)
  · rw [Nat.add_sub_cancel, hi, hg]
  · rw [Nat.add_sub_cancel, hcn]
  · have e0 := stR_congr (f := va_up ψ nS f) (f' := ψ) nS 0 (fun x hx => lo x (by omega))
    rw [stR_s, Nat.zero_add, hi, e0]
    have e1 : tSep (va_up ψ nS f) nS = pre k g ++ sepK k := by
      unfold tSep pre sepK
      rcases hL with ⟨a, b, c⟩ | ⟨a, b, c, d⟩ | ⟨a, b, c, d⟩
      · rw [if_pos c, if_neg (by omega), if_pos a]; decide
      · rw [if_neg (by omega), hi, hlast c, hg, if_neg (by omega), if_pos ⟨a, by omega⟩, if_pos a]; decide
      · rw [if_neg (by omega), hi, hlast b, hg, if_pos c.symm, if_neg (by omega), if_neg (by omega)]; rfl
    rw [e1, List.append_assoc]
section SG
variable {F n K mT ct : Nat} {τs : WS} {pa : PA} {β : FS} {υ υ0 : MS} {ω : WS} {sid : PA} {b : FS} {s0 : List Nat} {sd ζ κ φ ψ : MS} {Ns : PA} {Φ Ψ : WS} {l4 : Int32} {rF : FS} {N E : Nat → Nat}
theorem s_stage (hF : 5000 ≤ F) {g cnt many nS : Nat} (hg : g ≤ 2) (hK1 : 1 ≤ K) (hK : K ≤ 3) (hc1 : 1 ≤ cnt) (hc : (many = 1 ∧ cnt ≤ 3) ∨ cnt = 1) (hnS : nS ≤ 3 * g) (hJ : JSt K ψ nS) (hL : LGs g 0 ψ nS) (h : WU (s0 ++ (stR ψ 0 nS ++ pre 0 g)) β υ b υ0) (hl : (s0 ++ (stR ψ 0 nS ++ pre 0 g)).length + qf N many 0 (Rs sd) ≤ 700) : ok (loopM (fun st : Int32 × FS × MS × FS × MS × MS × Nat => mL_randomWorld_L293 F (nI cnt) (nI g) l4 τs n pa ω sid ζ κ K mT ct Ns Φ Ψ φ rF st.1 st.2.1 st.2.2.1 st.2.2.2.1 st.2.2.2.2.1 st.2.2.2.2.2.1 st.2.2.2.2.2.2) 5 ((0 : Int32), β, υ, b, sd, ψ, nS)) (fun x => WU (s0 ++ stR x.2.2.2.2.1 0 x.2.2.2.2.2) x.1 x.2.1 x.2.2.1 υ0 ∧ JSt K x.2.2.2.2.1 x.2.2.2.2.2 ∧ LGs g cnt x.2.2.2.2.1 x.2.2.2.2.2 ∧ x.2.2.2.2.2 ≤ 3 * g + 3 ∧ (s0 ++ stR x.2.2.2.2.1 0 x.2.2.2.2.2).length + N (Rs x.2.2.2.1) ≤ 700) := by
  refine loop_rel (fun k (x : FS × MS × FS × MS × MS × Nat) => WU (s0 ++ (stR x.2.2.2.2.1 0 x.2.2.2.2.2 ++ pre k g)) x.1 x.2.1 x.2.2.1 υ0 ∧ JSt K x.2.2.2.2.1 x.2.2.2.2.2 ∧ LGs g k x.2.2.2.2.1 x.2.2.2.2.2 ∧ x.2.2.2.2.2 ≤ 3 * g + k ∧ (s0 ++ (stR x.2.2.2.2.1 0 x.2.2.2.2.2 ++ pre k g)).length + qf N many k (Rs x.2.2.2.1) ≤ 700) cnt (fun k x hk hx => ?_) (fun x hx => ?_) cnt 0 5 _ (by omega) (by omega) ⟨h, hJ, hL, hnS, hl⟩
  · obtain ⟨x1, x2, x3, x4, x5⟩ := hx
    show ok (mL_randomWorld_L293 F (nI cnt) (nI g) l4 τs n pa ω sid ζ κ K mT ct Ns Φ Ψ φ rF (nI k) x.1 x.2.1 x.2.2.1 x.2.2.2.1 x.2.2.2.2.1 x.2.2.2.2.2) _
    unfold mL_randomWorld_L293
    rw [if_neg (nle (by omega) (by omega) hk)]
    have hq := qf_s N many k (Rs x.2.2.2.1) (by omega) (by omega)
    have hsl := sepK_len k
    rw [← hsl] at hq
    refine ok_ob7 (ok_mono (s_step hF (by omega) hg hK1 hK (by omega) rfl x1 (by omega)) fun y hy => ?_)
    obtain ⟨y1, y2, y3, f, y4, y5, y6, y7, y8⟩ := hy
    obtain ⟨j1, j2, j3⟩ := x2.step x3 y5 y6 (by omega)
    have e : s0 ++ (stR x.2.2.2.2.1 0 x.2.2.2.2.2 ++ pre k g) ++ (sepK k ++ tBod f) = s0 ++ (stR y.2.2.2.2.2.1 0 y.2.2.2.2.2.2 ++ pre (k + 1) g) := by
      rw [y3, y4, j3, show pre (k + 1) g = [] from if_neg (by omega), List.append_nil]
      simp only [List.append_assoc]
    rw [e] at y8
    rw [y1]
    refine ok_some ⟨_, rfl, y8, ?_, ?_, ?_, ?_⟩
    · show JSt K y.2.2.2.2.2.1 y.2.2.2.2.2.2
      rw [y3, y4]; exact j1
    · show LGs g (k + 1) y.2.2.2.2.2.1 y.2.2.2.2.2.2
      rw [y3, y4]; exact j2
    · show y.2.2.2.2.2.2 ≤ _
      omega
    · show (s0 ++ (stR y.2.2.2.2.2.1 0 y.2.2.2.2.2.2 ++ pre (k + 1) g)).length + qf N many (k + 1) (Rs y.2.2.2.2.1) ≤ 700
      have e9 : (sepK k ++ tBod f).length = (sepK k).length + (tBod f).length := List.length_append ..
      rw [← e, y2, List.length_append, e9]
      omega
  · obtain ⟨x1, x2, x3, x4, x5⟩ := hx
    show ok (mL_randomWorld_L293 F (nI cnt) (nI g) l4 τs n pa ω sid ζ κ K mT ct Ns Φ Ψ φ rF (nI cnt) x.1 x.2.1 x.2.2.1 x.2.2.2.1 x.2.2.2.2.1 x.2.2.2.2.2) _
    unfold mL_randomWorld_L293
    rw [if_pos ((nI_leI (by omega) (by omega)).mpr (Nat.le_refl _))]
    have hq := qf_N N many cnt (Rs x.2.2.2.1) hc1
    rw [show pre cnt g = [] from if_neg (by omega), List.append_nil] at x1 x5
    exact ok_some ⟨_, rfl, x1, x2, x3, by show x.2.2.2.2.2 ≤ _; omega, by show (s0 ++ stR x.2.2.2.2.1 0 x.2.2.2.2.2).length + N (Rs x.2.2.2.1) ≤ 700; omega⟩
/-- all stages of a journey -/
theorem s_stages (hF : 5000 ≤ F) {C : Nat} (hC1 : 1 ≤ C) (hC : C ≤ 3) (hφ : φ 1 0 = nI C) (hK1 : 1 ≤ K) (hK : K ≤ 3) (h : WU s0 β υ b υ0) (hl : s0.length + gf E 2 (Rs sd) ≤ 700) : ok (mL_rw_R244 F l4 τs n pa β υ ω sid b sd ζ κ K mT ct Ns Φ Ψ φ ψ 0 rF) (fun x => WU (s0 ++ stR x.2.2.2.2.1 0 x.2.2.2.2.2) x.1 x.2.1 x.2.2.1 υ0 ∧ JrOK K x.2.2.2.2.1 x.2.2.2.2.2 ∧ 1 ≤ x.2.2.2.2.2 ∧ x.2.2.2.2.2 ≤ 9 ∧ nv (x.2.2.2.2.1 (x.2.2.2.2.2 - 1) 0) + 1 = C ∧ (s0 ++ stR x.2.2.2.2.1 0 x.2.2.2.2.2).length + E (Rs x.2.2.2.1) ≤ 700) := by
  unfold mL_rw_R244
  refine ok_ob6 (ok_mono (P := fun x => WU (s0 ++ stR x.2.2.2.2.1 0 x.2.2.2.2.2) x.1 x.2.1 x.2.2.1 υ0 ∧ JrOK K x.2.2.2.2.1 x.2.2.2.2.2 ∧ 1 ≤ x.2.2.2.2.2 ∧ x.2.2.2.2.2 ≤ 9 ∧ nv (x.2.2.2.2.1 (x.2.2.2.2.2 - 1) 0) + 1 = C ∧ (s0 ++ stR x.2.2.2.2.1 0 x.2.2.2.2.2).length + E (Rs x.2.2.2.1) ≤ 700) ?_ fun x hx => ok_some hx)
  refine loop_rel (fun g (x : FS × MS × FS × MS × MS × Nat) => WU (s0 ++ stR x.2.2.2.2.1 0 x.2.2.2.2.2) x.1 x.2.1 x.2.2.1 υ0 ∧ JSt K x.2.2.2.2.1 x.2.2.2.2.2 ∧ LGs g 0 x.2.2.2.2.1 x.2.2.2.2.2 ∧ x.2.2.2.2.2 ≤ 3 * g ∧ (g = 0 → (s0 ++ stR x.2.2.2.2.1 0 x.2.2.2.2.2).length + gf E 2 (Rs x.2.2.2.1) ≤ 700) ∧ (1 ≤ g → (s0 ++ stR x.2.2.2.2.1 0 x.2.2.2.2.2).length + np E (3 - g) (Rs x.2.2.2.1) ≤ 700)) C (fun g x hg hx => ?_) (fun x hx => ?_) C 0 5 _ (by omega) (by omega) ⟨by show WU (s0 ++ []) β υ b υ0; rw [List.append_nil]; exact h, ⟨fun x hx => absurd hx (Nat.not_lt_zero _), fun z => absurd z (by show ¬ 1 ≤ 0; decide), fun x hx => absurd hx (Nat.not_lt_zero _)⟩, Or.inl ⟨rfl, rfl, rfl⟩, Nat.zero_le _, fun _ => by show (s0 ++ []).length + gf E 2 (Rs sd) ≤ 700; rw [List.append_nil]; exact hl, fun z => absurd z (by decide)⟩
  · obtain ⟨x1, x2, x3, x4, x5, x6⟩ := hx
    show ok (mL_randomWorld_L247 F l4 τs n pa ω sid ζ κ K mT ct Ns Φ Ψ φ rF (nI g) x.1 x.2.1 x.2.2.1 x.2.2.2.1 x.2.2.2.2.1 x.2.2.2.2.2) _
    unfold mL_randomWorld_L247
    rw [hφ, if_neg (nle (by omega) (by omega) hg)]
    have l14 : (sN 14).length = 4 := by decide
    have hpot : (s0 ++ (stR x.2.2.2.2.1 0 x.2.2.2.2.2 ++ pre 0 g)).length + gf E (2 - g) (Rs x.2.2.2.1) ≤ 700 := by
      by_cases q : g = 0
      · rw [show pre 0 g = [] from if_neg (by omega), List.append_nil, q]
        exact x5 q
      · have h6 := x6 (by omega)
        rw [show 3 - g = (2 - g) + 1 by omega] at h6
        have : 4 + gf E (2 - g) (Rs x.2.2.2.1) ≤ np E (2 - g + 1) (Rs x.2.2.2.1) := Nat.le_max_right _ _
        rw [show pre 0 g = sN 14 from if_pos ⟨rfl, q⟩, ← List.append_assoc, List.length_append, l14]
        omega
    refine ok_ob3 (ok_mono (P := fun y => WU (s0 ++ (stR x.2.2.2.2.1 0 x.2.2.2.2.2 ++ pre 0 g)) y.1 y.2.1 y.2.2 υ0) ?_ fun y hy => ?_)
    · by_cases q : g = 0
      · rw [if_pos ((le0 (by omega)).mpr q), show pre 0 g = [] from if_neg (by omega), List.append_nil]
        exact ok_some x1
      · rw [if_neg (fun z => q ((le0 (by omega)).mp z))]
        rw [show pre 0 g = sN 14 from if_pos ⟨rfl, q⟩, ← List.append_assoc] at hpot ⊢
        rw [List.length_append] at hpot
        exact ok_ob3 (ok_mono (l_write hF x1 (by omega)) fun y hy => ok_some hy)
    · obtain ⟨q1, sd1, a1, a2, a3, a4, -⟩ := dr F x.2.2.2.1 (b := 2) (by decide) (by decide)
      have a4 := a4 rfl
      rw [show (2 : Int32) = nI 2 from rfl, a1, ob2_e]
      have hv : (if nI q1 = (0 : Int32) then some (1 : Int32) else some (3 : Int32)) = some (nI (if q1 = 0 then 1 else 3)) := by
        by_cases z : q1 = 0
        · rw [if_pos z, z]; rfl
        · rw [if_neg z, if_neg (show ¬ nI q1 = (0 : Int32) from fun y => z ((nI_i (b := 0) (by omega) (by decide)).mp y))]; rfl
      rw [hv, ob1_e]
      obtain ⟨q2, sd2, b1, b2, b3, -, -⟩ := dr F sd1 (b := if q1 = 0 then 1 else 3) (by split <;> decide) (by split <;> decide)
      rw [b1, ob2_e, show (1 : Int32) + nI q2 = nI (1 + q2) from nI_a 1 q2]
      have hr2 : Rs sd2 = itn 2 (Rs x.2.2.2.1) := by rw [b3, a3]; rfl
      have hpot2 : (s0 ++ (stR x.2.2.2.2.1 0 x.2.2.2.2.2 ++ pre 0 g)).length + qf (np E (2 - g)) q1 0 (Rs sd2) ≤ 700 := by
        rw [gf_np] at hpot
        unfold stf at hpot
        unfold qf
        rw [if_pos rfl, hr2, a4]
        by_cases z : lb (Rs x.2.2.2.1) = 1
        · rw [if_pos z] at hpot ⊢
          exact hpot
        · rw [if_neg z] at hpot ⊢
          rw [itn_a]
          exact hpot
      have hc : (q1 = 1 ∧ 1 + q2 ≤ 3) ∨ 1 + q2 = 1 := by
        by_cases z : q1 = 0
        · rw [if_pos z] at b2; omega
        · rw [if_neg z] at b2; omega
      refine ok_ob6 (ok_mono (s_stage (N := np E (2 - g)) hF (by omega) hK1 hK (by omega) hc x4 x2 x3 hy hpot2) fun z hz => ?_)
      obtain ⟨z1, z2, z3, z4, z5⟩ := hz
      rw [nI_s]
      refine ok_some ⟨_, rfl, z1, z2, ?_, by show z.2.2.2.2.2 ≤ _; omega, fun y => absurd y (by omega), fun _ => ?_⟩
      · show LGs (g + 1) 0 z.2.2.2.2.1 z.2.2.2.2.2
        rcases z3 with ⟨c1, c2, c3⟩ | ⟨c1, c2, c3, c4⟩ | ⟨c1, c2, c3, c4⟩
        · exact absurd c1 (by omega)
        · exact absurd c1 (by omega)
        · exact Or.inr (Or.inl ⟨rfl, by omega, c2, by omega⟩)
      · show (s0 ++ stR z.2.2.2.2.1 0 z.2.2.2.2.2).length + np E (3 - (g + 1)) (Rs z.2.2.2.1) ≤ 700
        rw [show 3 - (g + 1) = 2 - g by omega]
        exact z5
  · obtain ⟨x1, x2, x3, x4, x5, x6⟩ := hx
    show ok (mL_randomWorld_L247 F l4 τs n pa ω sid ζ κ K mT ct Ns Φ Ψ φ rF (nI C) x.1 x.2.1 x.2.2.1 x.2.2.2.1 x.2.2.2.2.1 x.2.2.2.2.2) _
    unfold mL_randomWorld_L247
    rw [hφ, if_pos ((nI_leI (by omega) (by omega)).mpr (Nat.le_refl _))]
    have h6 := x6 hC1
    have := np_ge E (Rs x.2.2.2.1) (3 - C)
    rcases x3 with ⟨c1, c2, c3⟩ | ⟨c1, c2, c3, c4⟩ | ⟨c1, c2, c3, c4⟩
    · exact absurd c2 (by omega)
    · exact ok_some ⟨_, rfl, x1, ⟨x2.1, x2.2.1 c3, x2.2.2⟩, c3, by show x.2.2.2.2.2 ≤ 9; omega, c4, by show (s0 ++ stR x.2.2.2.2.1 0 x.2.2.2.2.2).length + E (Rs x.2.2.2.1) ≤ 700; omega⟩
    · exact absurd c1 (by omega)
end SG
