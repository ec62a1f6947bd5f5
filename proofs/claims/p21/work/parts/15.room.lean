/-! pure: room for one more world -/
theorem room_c {F : Nat} (hF : 9 ≤ F) {τs : WS} {n : Nat} {β : FS} {υ : MS} {ω : WS} {sid : PA} {pa : PA} {u : Nat} (hu : u ≤ 8) (h6 : υ 6 0 = nI u) (hp : ∀ j, j < 8 → 2 ≤ pa j ∧ pa j < 10) (hi : ∀ i j, i < 8 → j < 8 → pa i = pa j → i = j) (hs : ∀ v, v < 10 → sid v < n) : ∃ (pa1 : PA) (υ1 : MS) (u1 : Nat), (if (υ 6 0) < (8 : Int32) then some (pa, υ) else ob1 (hix (0 : Int32)) fun j6 => ob1 (loopM (fun st => mX3_remember_L18 F τs n β υ ω sid st.1 st.2) F ((1 : Int32), pa)) fun pa18 => ob1 (gW sid n (pa j6)) fun _ => ob1 (hix ((8 : Int32) - (1 : Int32))) fun j23 => ob1 (some (va_up pa18 j23 (pa j6))) fun pa24 => ob1 (some (pf υ 6 (7 : Int32))) fun υ26 => some (pa24, υ26)) = some (pa1, υ1) ∧ u1 < 8 ∧ υ1 6 0 = nI u1 ∧ (∀ q, q ≠ 6 → υ1 q = υ q) ∧ (∀ j, j < 8 → 2 ≤ pa1 j ∧ pa1 j < 10) ∧ (∀ i j, i < 8 → j < 8 → pa1 i = pa1 j → i = j) ∧ ((u < 8 ∧ u1 = u ∧ pa1 = pa) ∨ (u = 8 ∧ u1 = 7 ∧ ∀ j, j < 7 → pa1 j = pa (j + 1))) := by
  by_cases h : u < 8
  · refine ⟨pa, υ, u, ?_, h, h6, fun _ _ => rfl, hp, hi, Or.inl ⟨h, rfl, rfl⟩⟩
    have hlt : ∀ u : Nat, u < 8 → nI u < (8 : Int32) := by decide +kernel
    rw [if_pos (by rw [h6]; exact hlt u h)]
  · have h8 : u = 8 := by omega
    subst h8
    have e1 : ∀ j, j < 7 → va_up (fo rot 1 7 pa) 7 (pa 0) j = pa (j + 1) := fun j hj => by
      rw [va_up_ne _ _ (by omega), rot_fo 7 1 pa j (by omega), if_pos (by omega)]
    have e2 : va_up (fo rot 1 7 pa) 7 (pa 0) 7 = pa 0 := va_up_self _ _ _
    have e3 : ∀ j, j < 8 → va_up (fo rot 1 7 pa) 7 (pa 0) j = pa (if j = 7 then 0 else j + 1) := fun j hj => by
      by_cases hj7 : j = 7
      · rw [if_pos hj7, hj7]; exact e2
      · rw [if_neg hj7]; exact e1 j (by omega)
    refine ⟨va_up (fo rot 1 7 pa) 7 (pa 0), pf υ 6 7, 7, ?_, by decide, ?_, fun q hq => ?_, fun j hj => ?_, fun i j hi1 hj1 hij => ?_, Or.inr ⟨rfl, rfl, e1⟩⟩
    · rw [if_neg (by rw [h6]; decide), show hix (0 : Int32) = some 0 from hix_at (j := 0) (by decide), ob1_e, rotate_eq hF pa (fun j hj => (hp j hj).2) hs, ob1_e, gW_at (hp 0 (by decide)).2 (hs _ (hp 0 (by decide)).2), ob1_e, show hix ((8 : Int32) - 1) = some 7 from hix_at (j := 7) (by decide), ob1_e, ob1_e, ob1_e]
    · rw [pf_at, if_pos rfl]; rfl
    · funext i; rw [pf_at, if_neg hq]
    · rw [e3 j hj]; exact hp _ (by split <;> omega)
    · rw [e3 i hi1, e3 j hj1] at hij
      have := hi _ _ (by split <;> omega) (by split <;> omega) hij
      split at this <;> split at this <;> omega
