/-! the law's trips and worlds: their cells, and what stands first -/
def hixn (n : Nat) (i : Int32) : Option Nat := if i < 0 ∨ n ≤ i.toNatClampNeg then none else some i.toNatClampNeg
theorem hixn_s {n : Nat} {i : Int32} {j : Nat} (h : hixn n i = some j) : j < n ∧ (vp_in i n ∧ i.toNatClampNeg = j) := by
  unfold hixn at h
  split at h
  · cases h
  · next q =>
    have e := Option.some.inj h
    exact ⟨by rw [← e]; exact Nat.not_le.mp fun z => q (Or.inr z), q, e⟩
def gLt (k n : Nat) : Option Unit := if k < n then some () else none
theorem gLt_s {k n : Nat} {u : Unit} (h : gLt k n = some u) : k < n := by
  unfold gLt at h
  by_cases q : k < n
  · exact q
  · rw [if_neg q] at h; cases h
theorem gLt_t {k n : Nat} (h : k < n) : gLt k n = some () := if_pos h
def gNz (x : Int32) : Option Unit := if x = 0 then none else some ()
theorem gNz_s {x : Int32} {u : Unit} (h : gNz x = some u) : ¬ x = 0 := by
  unfold gNz at h
  by_cases q : x = 0
  · rw [if_pos q] at h; cases h
  · exact q
def cN (rn : Nat) (sd : MS) : va_W := [(rn, .inr (4, [.int (sd 0 0)]))]
def cT (cyI cyA : ClassId) (ta sa : Nat) (ra : PA) (N : Nat) (φ ψ : MS) : va_W :=
  (ta, .inr (5, [.int (φ 0 0), .int (φ 1 0), .int (φ 2 0), .int (φ 3 0), .int (φ 4 0), .int (φ 5 0), .ref sa])) :: (sa, .inl (cyA, N, .inr (.inr (.inr (.inr (fun k => some (ra k))))))) :: (List.range N).map (fun k => (ra k, .inl (cyI, 9, .inl (ψ k))))
theorem row_at {g : Nat → Nat × va_E} {N j : Nat} (hj : j < N) : ((List.range N).map g)[j]? = some (g j) := by
  rw [List.getElem?_map, List.getElem?_range hj]
  rfl
theorem row_set {g g' : Nat → Nat × va_E} {N j : Nat} {x : Nat × va_E} (hx : g' j = x) (h : ∀ i, i ≠ j → g' i = g i) : ((List.range N).map g).set j x = (List.range N).map g' := by
  apply List.ext_getElem?
  intro k
  rw [List.getElem?_set, List.getElem?_map, List.getElem?_map, List.length_map, List.length_range]
  by_cases hk : j = k
  · subst hk
    rw [if_pos rfl]
    by_cases hl : j < N
    · rw [if_pos hl, List.getElem?_range hl, ← hx]; rfl
    · rw [if_neg hl, List.getElem?_eq_none (by rw [List.length_range]; omega)]; rfl
  · rw [if_neg hk]
    by_cases hl : k < N
    · rw [List.getElem?_range hl]
      show some (g k) = some (g' k)
      rw [h k (Ne.symm hk)]
    · rw [List.getElem?_eq_none (by rw [List.length_range]; omega)]
      rfl
section VT
variable (cyI cyA cyT : ClassId) (ta sa : Nat) (ra : PA) (N : Nat) (φ ψ : MS)
theorem cT_row0 {j : Nat} (hj : j < N) : (cT cyI cyA ta sa ra N φ ψ)[2 + j]? = some (ra j, .inl (cyI, 9, .inl (ψ j))) := by
  rw [Nat.add_comm 2 j]
  show ((List.range N).map _)[j]? = _
  exact row_at hj
theorem cT_set0 {j : Nat} (f : FS) : (cT cyI cyA ta sa ra N φ ψ).set (2 + j) (ra j, .inl (cyI, 9, .inl f)) = cT cyI cyA ta sa ra N φ (va_up ψ j f) := by
  rw [Nat.add_comm 2 j]
  show _ :: _ :: ((List.range N).map _).set j _ = _
  rw [row_set (g' := fun k => (ra k, .inl (cyI, 9, .inl (va_up ψ j f k)))) (by rw [va_up_self]) (fun i hi => by rw [va_up_ne _ _ hi])]
  rfl
theorem cT_len : (cT cyI cyA ta sa ra N φ ψ).length = N + 2 := by
  unfold cT
  simp
theorem cT_row {j : Nat} (r : va_W) (hj : j < N) : (cT cyI cyA ta sa ra N φ ψ ++ r)[2 + j]? = some (ra j, .inl (cyI, 9, .inl (ψ j))) := by
  rw [List.getElem?_append_left (by rw [cT_len]; omega)]
  exact cT_row0 cyI cyA ta sa ra N φ ψ hj
theorem cT_set {j : Nat} (r : va_W) (hj : j < N) (f : FS) : (cT cyI cyA ta sa ra N φ ψ ++ r).set (2 + j) (ra j, .inl (cyI, 9, .inl f)) = cT cyI cyA ta sa ra N φ (va_up ψ j f) ++ r := by
  rw [List.set_append_left _ _ (by rw [cT_len]; omega), cT_set0]
end VT
def cX0 (cyA cyT : ClassId) (wa ks ts : Nat) (kr ta : PA) (K m : Nat) (ζ : MS) : va_W := [(wa, .inr (6, [.int (ζ 0 0), .int (ζ 1 0), .int (ζ 2 0), .int (ζ 3 0), .ref ks, .ref ts])), (ks, .inl (cyA, K, .inr (.inr (.inr (.inr (fun k => some (kr k))))))), (ts, .inl (cyT, m, .inr (.inr (.inr (.inr (fun k => some (ta k)))))))]
def cXk (cyI : ClassId) (kr : PA) (K : Nat) (κ : MS) : va_W := (List.range K).map (fun i => (kr i, .inl (cyI, 2, .inl (κ i))))
def cXt (cyI cyA : ClassId) (ta sa : PA) (ra : Nat → PA) (Ns : PA) (Φ Ψ : WS) (l : List Nat) : va_W := l.flatMap fun k => cT cyI cyA (ta k) (sa k) (ra k) (Ns k) (Φ k) (Ψ k)
def cX (cyI cyA cyT : ClassId) (wa ks ts : Nat) (kr ta sa : PA) (ra : Nat → PA) (K m : Nat) (Ns : PA) (ζ κ : MS) (Φ Ψ : WS) : va_W := cX0 cyA cyT wa ks ts kr ta K m ζ ++ (cXk cyI kr K κ ++ cXt cyI cyA ta sa ra Ns Φ Ψ (List.range m))
section VX
variable (cyI cyA cyT : ClassId) (wa ks ts : Nat) (kr ta sa : PA) (ra : Nat → PA) (K m : Nat) (Ns : PA) (ζ κ : MS) (Φ Ψ : WS)
theorem cX_krow {i : Nat} (hi : i < K) : (cX cyI cyA cyT wa ks ts kr ta sa ra K m Ns ζ κ Φ Ψ)[3 + i]? = some (kr i, .inl (cyI, 2, .inl (κ i))) := by
  rw [Nat.add_comm 3 i]
  show (cXk cyI kr K κ ++ _)[i]? = _
  rw [List.getElem?_append_left (by unfold cXk; simpa using hi)]
  exact row_at hi
theorem cX_kset {i : Nat} (hi : i < K) (f : FS) : (cX cyI cyA cyT wa ks ts kr ta sa ra K m Ns ζ κ Φ Ψ).set (3 + i) (kr i, .inl (cyI, 2, .inl f)) = cX cyI cyA cyT wa ks ts kr ta sa ra K m Ns ζ (va_up κ i f) Φ Ψ := by
  rw [Nat.add_comm 3 i]
  show _ :: _ :: _ :: (cXk cyI kr K κ ++ _).set i _ = _
  rw [List.set_append_left _ _ (by unfold cXk; simpa using hi)]
  unfold cXk
  rw [row_set (g' := fun k => (kr k, .inl (cyI, 2, .inl (va_up κ i f k)))) (by rw [va_up_self]) (fun k hk => by rw [va_up_ne _ _ hk])]
  rfl
def rX (k : Nat) : va_W := cX0 cyA cyT wa ks ts kr ta K m ζ ++ (cXk cyI kr K κ ++ cXt cyI cyA ta sa ra Ns Φ Ψ ((List.range m).erase k))
theorem p3 (a b c c' : va_W) : (a ++ (b ++ (c ++ c'))).Perm (c ++ (a ++ (b ++ c'))) := by
  refine (List.Perm.append_left a (List.perm_append_comm_assoc b c c')).trans ?_
  exact List.perm_append_comm_assoc a c _
theorem cX_view {k : Nat} (hk : k < m) : (cX cyI cyA cyT wa ks ts kr ta sa ra K m Ns ζ κ Φ Ψ).Perm (cT cyI cyA (ta k) (sa k) (ra k) (Ns k) (Φ k) (Ψ k) ++ rX cyI cyA cyT wa ks ts kr ta sa ra K m Ns ζ κ Φ Ψ k) := by
  have h1 := fm_perm (fun k => cT cyI cyA (ta k) (sa k) (ra k) (Ns k) (Φ k) (Ψ k)) (l := List.range m) (w := k) (List.mem_range.mpr hk)
  exact ((List.Perm.refl _).append ((List.Perm.refl _).append h1)).trans (p3 _ _ _ _)
theorem cXt_up (Φ' Ψ' : WS) (l : List Nat) (h : ∀ v ∈ l, Φ' v = Φ v ∧ Ψ' v = Ψ v) : cXt cyI cyA ta sa ra Ns Φ' Ψ' l = cXt cyI cyA ta sa ra Ns Φ Ψ l := by
  unfold cXt
  rw [List.flatMap_def, List.flatMap_def]
  congr 1
  apply List.map_congr_left
  intro v hv
  rw [(h v hv).1, (h v hv).2]
theorem cX_back2 {k : Nat} (hk : k < m) (Φ' Ψ' : WS) (h : ∀ v, v ≠ k → Φ' v = Φ v ∧ Ψ' v = Ψ v) : (cT cyI cyA (ta k) (sa k) (ra k) (Ns k) (Φ' k) (Ψ' k) ++ rX cyI cyA cyT wa ks ts kr ta sa ra K m Ns ζ κ Φ Ψ k).Perm (cX cyI cyA cyT wa ks ts kr ta sa ra K m Ns ζ κ Φ' Ψ') := by
  have h1 := cX_view cyI cyA cyT wa ks ts kr ta sa ra K m Ns ζ κ Φ' Ψ' hk
  unfold rX at h1 ⊢
  rw [cXt_up cyI cyA ta sa ra Ns Φ Ψ Φ' Ψ' _ (fun v hv => h v (ne_of_erase List.nodup_range hv))] at h1
  exact h1.symm
theorem cX_back {k : Nat} (hk : k < m) (φ ψ : MS) : (cT cyI cyA (ta k) (sa k) (ra k) (Ns k) φ ψ ++ rX cyI cyA cyT wa ks ts kr ta sa ra K m Ns ζ κ Φ Ψ k).Perm (cX cyI cyA cyT wa ks ts kr ta sa ra K m Ns ζ κ (va_up Φ k φ) (va_up Ψ k ψ)) := by
  have h := cX_back2 cyI cyA cyT wa ks ts kr ta sa ra K m Ns ζ κ Φ Ψ hk (va_up Φ k φ) (va_up Ψ k ψ) (fun v hv => ⟨va_up_ne _ _ hv, va_up_ne _ _ hv⟩)
  rw [va_up_self, va_up_self] at h
  exact h
theorem cX_backF {k : Nat} (hk : k < m) (φ : MS) : (cT cyI cyA (ta k) (sa k) (ra k) (Ns k) φ (Ψ k) ++ rX cyI cyA cyT wa ks ts kr ta sa ra K m Ns ζ κ Φ Ψ k).Perm (cX cyI cyA cyT wa ks ts kr ta sa ra K m Ns ζ κ (va_up Φ k φ) Ψ) := by
  have h := cX_back2 cyI cyA cyT wa ks ts kr ta sa ra K m Ns ζ κ Φ Ψ hk (va_up Φ k φ) Ψ (fun v hv => ⟨va_up_ne _ _ hv, rfl⟩)
  rw [va_up_self] at h
  exact h
theorem cX_backS {k : Nat} (hk : k < m) (ψ : MS) : (cT cyI cyA (ta k) (sa k) (ra k) (Ns k) (Φ k) ψ ++ rX cyI cyA cyT wa ks ts kr ta sa ra K m Ns ζ κ Φ Ψ k).Perm (cX cyI cyA cyT wa ks ts kr ta sa ra K m Ns ζ κ Φ (va_up Ψ k ψ)) := by
  have h := cX_back2 cyI cyA cyT wa ks ts kr ta sa ra K m Ns ζ κ Φ Ψ hk Φ (va_up Ψ k ψ) (fun v hv => ⟨rfl, va_up_ne _ _ hv⟩)
  rw [va_up_self] at h
  exact h
end VX
