/-! the classes and rows of the start, and the law from its entry over what the pure part owes -/
section SK
variable {args : Array Value} {s : State}
theorem K_prim {ty : FieldType} (h : (Cond.arrayClass ty).before args s = true) : ∃ c, ArrOfT s c ty ∧ s.vm.findClass ("[" ++ ty.toString) = some c := by
  obtain ⟨c, k, comp, h1, h2, h3⟩ := Cond.arrayClass_spec h
  exact ⟨c, fun n z => ⟨fun k h => (by cases h), k, h2, comp, h3⟩, h1⟩
theorem K_obj {C : String} (h : (Cond.arrayOver (.object C)).before args s = true) : ∃ c, ArrOfT s c (.object C) ∧ va_RA s c (.object C) := by
  obtain ⟨comp, c, k, h1, -, h2, h3, h4⟩ := Cond.arrayOver_spec h
  exact ⟨c, fun n z => ⟨fun k h => (by cases h), k, h2, comp, h3⟩, k, comp, h2, h3, h1, h4⟩
theorem K_arr {ty : FieldType} (h : (Cond.arrayOver (.array ty)).before args s = true) : ∃ c, ArrOfT s c (.array ty) ∧ s.vm.findClass ("[" ++ (FieldType.array ty).toString) = some c := by
  simp only [Cond.before, Cond.holds, Cond.value, beq_iff_eq] at h
  cases hc : s.vm.findClass (FieldType.array ty).toString with
  | none => simp [hc] at h
  | some comp =>
    simp only [hc, Option.bind_some, Option.bind_eq_some_iff, Option.map_eq_some_iff] at h
    obtain ⟨c, hi, k, hk, hb⟩ := h
    cases hkind : k.kind with
    | array component ty2 =>
      rw [hkind] at hb
      simp at hb
      refine ⟨c, fun n z => ⟨fun k h => (by cases h), k, hk, component, by rw [hkind, hb.1]⟩, hb.2⟩
    | _ => rw [hkind] at hb; simp at hb
set_option maxRecDepth 20000 in
theorem start_K (hts : ∀ w ∈ lw_tbl, w.before args s = true) : ∃ (dC : Nat → ClassId) (dI : Nat → Nat → Nat) (cyI cyB cyO cyA cyT cyW cyZ : ClassId), va_K (dC, dI) vwCl [(cyI, .int), (cyB, .byte), (cyO, .object "UndoJourneys$World"), (cyA, .array .int), (cyT, .object "UndoJourneysLaw$Trip"), (cyW, .object "UndoJourneysLaw$World"), (cyZ, .boolean)] s := by
  obtain ⟨c0, i0, k0⟩ := u_known (C := RX0) (T := TX0) (N := 17) (n := 17) hts t_wsX00 (hts _ (tb1 33 rfl))
  obtain ⟨c1, i1, k1⟩ := u_known (C := RX1) (T := TX1) (N := 11) (n := 11) hts t_wsX10 (hts _ (tb2 224 rfl))
  obtain ⟨c2, i2, k2⟩ := u_known (C := RX2) (T := TX2) (N := 14) (n := 14) hts t_wsX20 (hts _ (tb1 116 rfl))
  obtain ⟨c3, i3, k3⟩ := u_known (C := RX3) (T := TX3) (N := 7) (n := 7) hts t_wsX30 (hts _ (tb1 23 rfl))
  obtain ⟨c4, i4, k4⟩ := u_known (C := RX4) (T := TX4) (N := 1) (n := 1) hts t_wsX40 (hts _ (tb1 211 rfl))
  obtain ⟨c5, i5, k5⟩ := u_known (C := RX5) (T := TX5) (N := 7) (n := 7) hts t_wsX50 (hts _ (tb2 59 rfl))
  obtain ⟨c6, i6, k6⟩ := u_known (C := RX6) (T := TX6) (N := 6) (n := 6) hts t_wsX60 (hts _ (tb2 10 rfl))
  obtain ⟨cyI, a1, b1⟩ := K_prim (hts _ (tb1 115 rfl))
  obtain ⟨cyB, a2, b2⟩ := K_prim (hts _ (tb1 114 rfl))
  obtain ⟨cyZ, a7, b7⟩ := K_prim (hts _ (tb2 142 rfl))
  obtain ⟨cyO, a3, b3⟩ := K_obj (C := "UndoJourneys$World") (hts _ (tb1 31 rfl))
  obtain ⟨cyA, a4, b4⟩ := K_arr (ty := .int) (hts _ (tb2 16 rfl))
  obtain ⟨cyT, a5, b5⟩ := K_obj (C := "UndoJourneysLaw$Trip") (hts _ (tb2 18 rfl))
  obtain ⟨cyW, a6, b6⟩ := K_obj (C := "UndoJourneysLaw$World") (hts _ (tb5 104 rfl))
  refine ⟨fun k => match k with | 0 => c0 | 1 => c1 | 2 => c2 | 3 => c3 | 4 => c4 | 5 => c5 | _ => c6, fun k => match k with | 0 => i0 | 1 => i1 | 2 => i2 | 3 => i3 | 4 => i4 | 5 => i5 | _ => i6, cyI, cyB, cyO, cyA, cyT, cyW, cyZ, fun k q hq => ?_, fun k q hq => ?_⟩
  · match k, hq with
    | 0, hq => cases hq; exact k0
    | 1, hq => cases hq; exact k1
    | 2, hq => cases hq; exact k2
    | 3, hq => cases hq; exact k3
    | 4, hq => cases hq; exact k4
    | 5, hq => cases hq; exact k5
    | 6, hq => cases hq; exact k6
    | k + 7, hq => simp [vwCl] at hq
  · match k, hq with
    | 0, hq => cases hq; exact ⟨a1, b1⟩
    | 1, hq => cases hq; exact ⟨a2, b2⟩
    | 2, hq => cases hq; exact ⟨a3, b3⟩
    | 3, hq => cases hq; exact ⟨a4, b4⟩
    | 4, hq => cases hq; exact ⟨a5, b5⟩
    | 5, hq => cases hq; exact ⟨a6, b6⟩
    | 6, hq => cases hq; exact ⟨a7, b7⟩
    | k + 7, hq => simp at hq
end SK
set_option maxRecDepth 20000 in
/-- the law from its entry, if the pure part is given -/
theorem whole_of (hmain : ∀ (xs : Nat → Int32) (L : Nat), L ≤ 260 → ∃ fu, mL_law fu xs L = some 1) {p : Program} {e : Env} {s : State} {m : MethodId} {below : List Frame} {meth : Method} {c : Code} (l : Launch) (hflags : l.flags = flags0) {b L : Nat} {xs : Nat → Int32} (hL : L ≤ 260) (C0 : lw_At p s m meth c b L xs) : W p l e room_1 s m #[Value.ref b] below meth c s.heap [] 0 0 (lw_Z below #[Value.ref b] s) (entryFrame m ([Value.ref b] : List Value).toArray 25) := by
  obtain ⟨hx, hb, hr, hml, hown, hts, hX, hbl, hlocks, hgv⟩ := id C0
  have h : narrow_1.before #[Value.ref b] s = true := bR hgv
  have hA : ∀ a : Nat, a < s.heap.size → ¬ va_A [] s.heap.size a := fun a h q => q.elim (fun h9 => by obtain ⟨k9, e9, h8⟩ := h9; simp at h8) (fun h9 => absurd h (Nat.not_lt.mpr h9))
  obtain ⟨fu, hf⟩ := hmain xs L hL
  obtain ⟨dC, dI, cyI, cyB, cyO, cyA, cyT, cyW, cyZ, hK⟩ := start_K hts
  obtain ⟨kS, hJ⟩ := start_JS (A := va_A [] s.heap.size) hts h hA
  have hEV : EV kS (va_A [] s.heap.size) s s.heap := ⟨start_EX hts h hA, start_NC h, hJ, (va_Nw.of rfl (hts _ (tb2 230 rfl))), (va_Nw.of rfl (hts _ (tb1 34 rfl))), va_AO.of (hts _ (tb1 31 rfl)), (va_Nw.of rfl (hts _ (tb2 11 rfl))), (va_Nw.of rfl (hts _ (tb4 222 rfl))), va_AO.of (hts _ (tb2 18 rfl)), va_AO.of (hts _ (tb5 104 rfl)), (hts _ (tb2 16 rfl)), (va_Nw.of rfl (hts _ (tb2 53 rfl)))⟩
  have hB : Bd (dC, dI) [(cyI, .int), (cyB, .byte), (cyO, .object "UndoJourneys$World"), (cyA, .array .int), (cyT, .object "UndoJourneysLaw$Trip"), (cyW, .object "UndoJourneysLaw$World"), (cyZ, .boolean)] (va_A [] s.heap.size) s (wF []) s.heap [] := ⟨fun k q h => by simp at h, ⟨fun i j p q h => by simp at h, fun k q h => by simp at h⟩, va_S.rf⟩
  have hl := lv_entry [.ref b] (n := 25) (Nat.le_of_ble_eq_true rfl)
  rw [lg_entry_eq]
  generalize (lg_sl [.ref b] ++ List.replicate (25 - (lg_sl [.ref b]).length) Slot.unset).toArray = ls at hl ⊢
  exact law_main hx hb hml hown hts hX hbl (hA b hbl) (by unfold Launch.stackTraces; rw [hflags]; decide) hK hEV hr hlocks hf hB hl
