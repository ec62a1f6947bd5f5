/-! the classes and rows of the start, and the law from its entry over what the pure part owes -/
section SK
variable {args : Array Value} {s : State}
theorem K_prim {ty : FieldType} (h : (Cond.arrayClass ty).before args s = true) : ∃ c, ArrOfT s c ty ∧ s.vm.findClass ("[" ++ ty.toString) = some c := by
  obtain ⟨c, k, comp, h1, h2, h3⟩ := Cond.arrayClass_spec h
  exact ⟨c, fun n z => ⟨fun k h => (by cases h), k, h2, comp, h3⟩, h1⟩
theorem K_obj {C : String} (h : (Cond.arrayOver (.object C)).before args s = true) : ∃ c, ArrOfT s c (.object C) ∧ va_RA s c (.object C) := by
  obtain ⟨comp, c, k, h1, -, h2, h3, h4⟩ := Cond.arrayOver_spec h
  exact ⟨c, fun n z => ⟨fun k h => (by cases h), k, h2, comp, h3⟩, k, comp, h2, h3, h1, h4⟩
theorem K_arr {ty : FieldType} (h : (Cond.arrayOver (.array ty)).before args s = true) : ∃ c, ArrOfT s c (.array ty) ∧ s.vm.findClass ("[" ++ (FieldType.array ty).toString) = some c := by
  simp only [Cond.before, Cond.holds, Cond.value, beq_iff_eq] at h
  cases hc : s.vm.findClass (FieldType.array ty).toString with
  | none => simp [hc] at h
  | some comp =>
    simp only [hc, Option.bind_some, Option.bind_eq_some_iff, Option.map_eq_some_iff] at h
    obtain ⟨c, hi, k, hk, hb⟩ := h
    cases hkind : k.kind with
    | array component ty2 =>
      rw [hkind] at hb
      simp at hb
      refine ⟨c, fun n z => ⟨fun k h => (by cases h), k, hk, component, by rw [hkind, hb.1]⟩, hb.2⟩
    | _ => rw [hkind] at hb; simp at hb
set_option maxRecDepth 20000 in
theorem start_K (hts : ∀ w ∈ lw_tbl, w.before args s = true) : ∃ (dC : Nat → ClassId) (dI : Nat → Nat → Nat) (cyI cyB cyO cyL cyA : ClassId), va_K (dC, dI) vwCl [(cyI, .int), (cyB, .byte), (cyO, .object "UndoJourneys$World"), (cyL, .long), (cyA, .array .int)] s := by
  obtain ⟨c0, i0, k0⟩ := u_known (C := RX0) (T := TX0) (N := 17) (n := 17) hts t_wsX00 (hts _ (tb1 31 rfl))
  obtain ⟨c1, i1, k1⟩ := u_known (C := RX1) (T := TX1) (N := 11) (n := 11) hts t_wsX10 (hts _ (tb2 118 rfl))
  obtain ⟨c2, i2, k2⟩ := u_known (C := RX2) (T := TX2) (N := 14) (n := 14) hts t_wsX20 (hts _ (tb1 114 rfl))
  obtain ⟨c3, i3, k3⟩ := u_known (C := RX3) (T := TX3) (N := 7) (n := 7) hts t_wsX30 (hts _ (tb1 21 rfl))
  obtain ⟨c4, i4, k4⟩ := u_known (C := RX4) (T := TX4) (N := 15) (n := 15) hts t_wsX40 (hts _ (tb4 90 rfl))
  obtain ⟨cyI, a1, b1⟩ := K_prim (hts _ (tb1 113 rfl))
  obtain ⟨cyB, a2, b2⟩ := K_prim (hts _ (tb1 112 rfl))
  obtain ⟨cyL, a3, b3⟩ := K_prim (hts _ (tb5 194 rfl))
  obtain ⟨cyO, a4, b4⟩ := K_obj (C := "UndoJourneys$World") (hts _ (tb1 29 rfl))
  obtain ⟨cyA, a5, b5⟩ := K_arr (ty := .int) (hts _ (tb4 96 rfl))
  refine ⟨fun k => match k with | 0 => c0 | 1 => c1 | 2 => c2 | 3 => c3 | _ => c4, fun k => match k with | 0 => i0 | 1 => i1 | 2 => i2 | 3 => i3 | _ => i4, cyI, cyB, cyO, cyL, cyA, fun k q hq => ?_, fun k q hq => ?_⟩
  · match k, hq with
    | 0, hq => cases hq; exact k0
    | 1, hq => cases hq; exact k1
    | 2, hq => cases hq; exact k2
    | 3, hq => cases hq; exact k3
    | 4, hq => cases hq; exact k4
    | k + 5, hq => simp [vwCl] at hq
  · match k, hq with
    | 0, hq => cases hq; exact ⟨a1, b1⟩
    | 1, hq => cases hq; exact ⟨a2, b2⟩
    | 2, hq => cases hq; exact ⟨a4, b4⟩
    | 3, hq => cases hq; exact ⟨a3, b3⟩
    | 4, hq => cases hq; exact ⟨a5, b5⟩
    | k + 5, hq => simp at hq
end SK
set_option maxRecDepth 20000 in
/-- the law, if the pure part is given -/
theorem whole_of {fu : Nat} {I : Nat → IT} (hag : Agrees fu I) (hI0 : I 0 (fun _ => τ0) 1 (fun k => k + 2) (fun _ => 0) υ0 (fun _ => σ0) (fun _ => 0) μ0) {p : Program} {e : Env} {s : State} {m : MethodId} {below : List Frame} {meth : Method} {c : Code} (l : Launch) (hflags : l.flags = flags0) {b L : Nat} {xs : Nat → Int32} (hL : L ≤ 3072) (C0 : lw_At p s m meth c b L xs) : W p l e room_1 s m #[Value.ref b] below meth c s.heap [] 0 0 (lw_Z below #[Value.ref b] s) (entryFrame m ([Value.ref b] : List Value).toArray 7) := by
  obtain ⟨hx, hb, hr, hml, hown, hts, hX, hbl, hlocks, hgv⟩ := id C0
  have h : narrow_1.before #[Value.ref b] s = true := bR hgv
  have hA : ∀ a : Nat, a < s.heap.size → ¬ (fun q => s.heap.size ≤ q) a := fun a h => Nat.not_le.mpr h
  obtain ⟨dC, dI, cyI, cyB, cyO, cyL, cyA, hK⟩ := start_K hts
  obtain ⟨kS, hJ⟩ := start_JS hts h hA
  exact law_entry hx hb hml hown hts hX hbl (by unfold Launch.stackTraces; rw [hflags]; decide) hK (start_EX hts h hA) (start_NC h) hJ (va_Nw.of rfl (hts _ (tb2 124 rfl))) (va_AO.of (hts _ (tb1 29 rfl))) (hts _ (tb4 96 rfl)) (va_Nw.of rfl (hts _ (tb1 32 rfl))) hr hlocks hL hag hI0
