/-! makers of the law's kin -/
abbrev rmX4_init : Room := { frames := 1, cells := 0, slots := 0, locals := 12 }
set_option maxHeartbeats 8000000 in
set_option maxRecDepth 100000 in
theorem kX4_init (l : Launch) (dC : Nat → ClassId) (dI : Nat → Nat → Nat) (h0 : Nat) {i1 : Int32} (sz : Nat) : Met l yX4_init wsX4_init rmX4_init (PcF (dC, dI) [] [(h0, .inr (4, [.int 0]))] sz [.ref h0, .int i1]) (va_Qv (fun u : Unit => True) (fun u t => va_P (dC, dI) vwCl ([(h0, .inr (4, [.int i1]))]) t.heap ∧ va_K (dC, dI) vwCl [] t ∧ va_D (va_A [(h0, .inr (4, [.int 0]))] sz) ([(h0, .inr (4, [.int i1]))])) (va_A [(h0, .inr (4, [.int 0]))] sz)) 0 0 (va_A [(h0, .inr (4, [.int 0]))] sz) := by
  refine Met.ofW (cc := cX4_init) (maxL := 2) (ret := none) (by decide) rfl ?_
  intro p e s m args below meth c s₁ B hml hv
  obtain ⟨rfl, hsz, hP, hK, hD0⟩ := hv
  have hx := B.exec
  have hb := B.bytes
  have hr := B.returns
  have hts := atoms_spec (ws := wsX4_init) B.pre
  have hown : s.vm.findClass RX4 = some m.cls := findClass_of_methodNamed B.named
  have hlocks := B.notSynchronized
  have hin9 : meth.name = "<init>" := (name_of_methodNamed B.named B.method).1
  subst hsz
  have hA : ∀ q : Nat, s.heap.size ≤ q → va_A [(h0, .inr (4, [.int 0]))] s.heap.size q := fun q h => Or.inr h
  have hB : Bd (dC, dI) [] (va_A [(h0, .inr (4, [.int 0]))] s.heap.size) s [(h0, .inr (4, [.int 0]))] s.heap [] := ⟨hP, hD0.self, va_S.rf⟩
  have hq1 : (Cond.methodLink RX4 1 objectInit).before _ s = true := hts _ (List.mem_of_getElem? (i := 1) rfl)
  have hq2 : (Cond.instanceMethod objectInit).before _ s = true := hts _ (List.mem_of_getElem? (i := 2) rfl)
  have hq3 : (Cond.code objectInit ⟨#[0xb1]⟩ 1 none).before _ s = true := hts _ (List.mem_of_getElem? (i := 3) rfl)
  have hq4 : (Cond.fieldLink RX4 7 "UndoJourneysLaw$Random" "seed" "I").before _ s = true := hts _ (List.mem_of_getElem? (i := 4) rfl)
  have hinX4 : ∀ w ∈ wsX40, w ∈ wsX4_init := fun w h => List.mem_cons_of_mem _ (List.mem_append_right _ h)
  have hl := lv_entry [.ref h0, .int i1] (n := 2) (Nat.le_of_ble_eq_true rfl)
  rw [lg_entry_eq]
  generalize (lg_sl [.ref h0, .int i1] ++ List.replicate (2 - (lg_sl [.ref h0, .int i1]).length) Slot.unset).toArray = ls at hl ⊢
  have hl : lv_has ls 2 [(0, .ref h0), (1, .int i1)] := hl
  refine lv_aload_n hx hb dX4_init_0 rfl (lv_at hl 0 rfl) ?_
  refine g_objInit hx hb hown hml hl.1 hq1 hq2 hq3 dX4_init_1 (Nat.le_of_ble_eq_true rfl) (Nat.le_of_ble_eq_true rfl) ?_
  refine lv_aload_n hx hb dX4_init_4 rfl (lv_at hl 0 rfl) ?_
  refine lv_iload_n hx hb dX4_init_5 rfl (lv_at hl 1 rfl) ?_
  refine g_put (C := RX4) (T := TX4) (N := 1) hx hb hts hinX4 tyX4 tyX4_ok nmX4 hown hK hB 0 rfl rfl 0 rfl hq4 rfl rfl rfl rfl rfl rfl dX4_init_6 (w2 := [(h0, .inr (4, [.int i1]))]) rfl (fun H locs hB => ?_)
  have hB : Bd (dC, dI) [] (va_A [(h0, .inr (4, [.int 0]))] s.heap.size) s ((fun u : Unit => [(h0, .inr (4, [.int i1]))]) (())) H locs := hB
  exact g_vretX (S := Unit) (w1 := fun u => [(h0, .inr (4, [.int i1]))]) (u := ()) hx hb hr hlocks hK hB trivial (Nat.le_of_ble_eq_true rfl) (Nat.le_of_ble_eq_true rfl) dX4_init_9

abbrev rmX5_init : Room := { frames := 1, cells := 1, slots := 0, locals := 12 }
set_option maxHeartbeats 8000000 in
set_option maxRecDepth 100000 in
theorem kX5_init (l : Launch) (dC : Nat → ClassId) (dI : Nat → Nat → Nat) (cyI cyA : ClassId) (h0 : Nat) (sz : Nat) : Met l yX5_init wsX5_init rmX5_init (PcA (dC, dI) [(cyI, .int), (cyA, .array .int)] (va_AOA .int) [(h0, .inr (5, [.int 0, .int 0, .int 0, .int 0, .int 0, .int 0, .null]))] sz [.ref h0]) (va_Qv (fun u : Nat => True) (fun u t => va_P (dC, dI) vwCl (cT cyI cyA h0 u (fun _ => 0) 0 φ0 (fun _ _ => 0)) t.heap ∧ va_K (dC, dI) vwCl [(cyI, .int), (cyA, .array .int)] t ∧ va_D (va_A [(h0, .inr (5, [.int 0, .int 0, .int 0, .int 0, .int 0, .int 0, .null]))] sz) (cT cyI cyA h0 u (fun _ => 0) 0 φ0 (fun _ _ => 0))) (va_A [(h0, .inr (5, [.int 0, .int 0, .int 0, .int 0, .int 0, .int 0, .null]))] sz)) 1 0 (va_A [(h0, .inr (5, [.int 0, .int 0, .int 0, .int 0, .int 0, .int 0, .null]))] sz) := by
  refine Met.ofW (cc := cX5_init) (maxL := 1) (ret := none) (by decide) rfl ?_
  intro p e s m args below meth c s₁ B hml hv
  obtain ⟨rfl, ⟨hsz, hP, hK, hD0⟩, hAO⟩ := hv
  have hx := B.exec
  have hb := B.bytes
  have hr := B.returns
  have hts := atoms_spec (ws := wsX5_init) B.pre
  have hown : s.vm.findClass RX5 = some m.cls := findClass_of_methodNamed B.named
  have hlocks := B.notSynchronized
  have hin9 : meth.name = "<init>" := (name_of_methodNamed B.named B.method).1
  subst hsz
  have hA : ∀ q : Nat, s.heap.size ≤ q → va_A [(h0, .inr (5, [.int 0, .int 0, .int 0, .int 0, .int 0, .int 0, .null]))] s.heap.size q := fun q h => Or.inr h
  have hB : Bd (dC, dI) [(cyI, .int), (cyA, .array .int)] (va_A [(h0, .inr (5, [.int 0, .int 0, .int 0, .int 0, .int 0, .int 0, .null]))] s.heap.size) s [(h0, .inr (5, [.int 0, .int 0, .int 0, .int 0, .int 0, .int 0, .null]))] s.heap [] := ⟨hP, hD0.self, va_S.rf⟩
  have hq1 : (Cond.methodLink RX5 1 objectInit).before _ s = true := hts _ (List.mem_of_getElem? (i := 1) rfl)
  have hq2 : (Cond.instanceMethod objectInit).before _ s = true := hts _ (List.mem_of_getElem? (i := 2) rfl)
  have hq3 : (Cond.code objectInit ⟨#[0xb1]⟩ 1 none).before _ s = true := hts _ (List.mem_of_getElem? (i := 3) rfl)
  have hq4 : (Cond.fieldLink RX5 7 "UndoJourneysLaw$Trip" "stage" "I").before _ s = true := hts _ (List.mem_of_getElem? (i := 4) rfl)
  have hq5 : (Cond.fieldLink RX5 13 "UndoJourneysLaw$Trip" "end" "I").before _ s = true := hts _ (List.mem_of_getElem? (i := 5) rfl)
  have hq6 : (Cond.classLink RX5 16 "[I").before _ s = true := hts _ (List.mem_of_getElem? (i := 6) rfl)
  have hq7 : (Cond.fieldLink RX5 18 "UndoJourneysLaw$Trip" "steps" "[[I").before _ s = true := hts _ (List.mem_of_getElem? (i := 7) rfl)
  have hinX5 : ∀ w ∈ wsX50, w ∈ wsX5_init := fun w h => List.mem_cons_of_mem _ (List.mem_append_right _ h)
  have hl := lv_entry [.ref h0] (n := 1) (Nat.le_of_ble_eq_true rfl)
  rw [lg_entry_eq]
  generalize (lg_sl [.ref h0] ++ List.replicate (1 - (lg_sl [.ref h0]).length) Slot.unset).toArray = ls at hl ⊢
  have hl : lv_has ls 1 [(0, .ref h0)] := hl
  refine lv_aload_n hx hb dX5_init_0 rfl (lv_at hl 0 rfl) ?_
  refine g_objInit hx hb hown hml hl.1 hq1 hq2 hq3 dX5_init_1 (Nat.le_of_ble_eq_true rfl) (Nat.le_of_ble_eq_true rfl) ?_
  refine lv_aload_n hx hb dX5_init_4 rfl (lv_at hl 0 rfl) ?_
  refine lv_iconst (v := (-1 : Int32)) hx hb dX5_init_5 (by decide) ?_
  refine g_put (C := RX5) (T := TX5) (N := 7) hx hb hts hinX5 tyX5 tyX5_ok nmX5 hown hK hB 0 rfl rfl 3 rfl hq4 rfl rfl rfl rfl rfl rfl dX5_init_6 (w2 := [(h0, .inr (5, [.int 0, .int 0, .int 0, .int (-1 : Int32), .int 0, .int 0, .null]))]) rfl (fun H locs hB => ?_)
  refine lv_aload_n hx hb dX5_init_9 rfl (lv_at hl 0 rfl) ?_
  refine lv_iconst (v := (-1 : Int32)) hx hb dX5_init_10 (by decide) ?_
  refine g_put (C := RX5) (T := TX5) (N := 7) hx hb hts hinX5 tyX5 tyX5_ok nmX5 hown hK hB 0 rfl rfl 4 rfl hq5 rfl rfl rfl rfl rfl rfl dX5_init_11 (w2 := [(h0, .inr (5, [.int 0, .int 0, .int 0, .int (-1 : Int32), .int (-1 : Int32), .int 0, .null]))]) rfl (fun H locs hB => ?_)
  refine lv_aload_n hx hb dX5_init_14 rfl (lv_at hl 0 rfl) ?_
  refine lv_iconst (v := (0 : Int32)) hx hb dX5_init_15 (by decide) ?_
  refine g_newqA 1 rfl hx hb hown hq6 hAO hK hB hA 0 (by decide) (by decide) (Nat.le_of_ble_eq_true rfl) (Nat.le_of_ble_eq_true rfl) (Nat.le_of_ble_eq_true rfl) dX5_init_16 (fun q1 H locs hB => ?_)
  refine g_put (C := RX5) (T := TX5) (N := 7) hx hb hts hinX5 tyX5 tyX5_ok nmX5 hown hK hB 0 rfl rfl 6 rfl hq7 rfl rfl rfl rfl rfl rfl dX5_init_19 (w2 := [(h0, .inr (5, [.int 0, .int 0, .int 0, .int (-1 : Int32), .int (-1 : Int32), .int 0, .ref q1])), (q1, .inl (cyA, 0, .inr (.inr (.inr (.inr (fun _ => none))))))]) rfl (fun H locs hB => ?_)
  have hB := hB.refs 1 (g := fun k => some ((fun _ => 0 : PA) k)) rfl (fun j hj => absurd hj (Nat.not_lt_zero _))
  have hB : Bd (dC, dI) [(cyI, .int), (cyA, .array .int)] (va_A [(h0, .inr (5, [.int 0, .int 0, .int 0, .int 0, .int 0, .int 0, .null]))] s.heap.size) s ((fun u : Nat => cT cyI cyA h0 u (fun _ => 0) 0 φ0 (fun _ _ => 0)) (q1)) H locs := hB
  exact g_vretX (S := Nat) (w1 := fun u => cT cyI cyA h0 u (fun _ => 0) 0 φ0 (fun _ _ => 0)) (u := q1) hx hb hr hlocks hK hB trivial (Nat.le_of_ble_eq_true rfl) (Nat.le_of_ble_eq_true rfl) dX5_init_22

abbrev rmX6_init : Room := { frames := 1, cells := 2, slots := 0, locals := 12 }
set_option maxHeartbeats 8000000 in
set_option maxRecDepth 100000 in
theorem kX6_init (l : Launch) (dC : Nat → ClassId) (dI : Nat → Nat → Nat) (cyI cyA cyT : ClassId) (h0 : Nat) (sz : Nat) : Met l yX6_init wsX6_init rmX6_init (PcA (dC, dI) [(cyI, .int), (cyA, .array .int), (cyT, .object "UndoJourneysLaw$Trip")] (fun U => va_AOA .int U ∧ va_AO "UndoJourneysLaw$Trip" U) [(h0, .inr (6, [.int 0, .int 0, .int 0, .int 0, .null, .null]))] sz [.ref h0]) (va_Qv (fun u : Nat × Nat => True) (fun u t => va_P (dC, dI) vwCl (cX cyI cyA cyT h0 u.1 u.2 (fun _ => 0) (fun _ => 0) (fun _ => 0) (fun _ _ => 0) 0 0 (fun _ => 0) ζ0 (fun _ _ => 0) (fun _ _ _ => 0) (fun _ _ _ => 0)) t.heap ∧ va_K (dC, dI) vwCl [(cyI, .int), (cyA, .array .int), (cyT, .object "UndoJourneysLaw$Trip")] t ∧ va_D (va_A [(h0, .inr (6, [.int 0, .int 0, .int 0, .int 0, .null, .null]))] sz) (cX cyI cyA cyT h0 u.1 u.2 (fun _ => 0) (fun _ => 0) (fun _ => 0) (fun _ _ => 0) 0 0 (fun _ => 0) ζ0 (fun _ _ => 0) (fun _ _ _ => 0) (fun _ _ _ => 0))) (va_A [(h0, .inr (6, [.int 0, .int 0, .int 0, .int 0, .null, .null]))] sz)) 2 0 (va_A [(h0, .inr (6, [.int 0, .int 0, .int 0, .int 0, .null, .null]))] sz) := by
  refine Met.ofW (cc := cX6_init) (maxL := 1) (ret := none) (by decide) rfl ?_
  intro p e s m args below meth c s₁ B hml hv
  obtain ⟨rfl, ⟨hsz, hP, hK, hD0⟩, hAO⟩ := hv
  have hx := B.exec
  have hb := B.bytes
  have hr := B.returns
  have hts := atoms_spec (ws := wsX6_init) B.pre
  have hown : s.vm.findClass RX6 = some m.cls := findClass_of_methodNamed B.named
  have hlocks := B.notSynchronized
  have hin9 : meth.name = "<init>" := (name_of_methodNamed B.named B.method).1
  subst hsz
  have hA : ∀ q : Nat, s.heap.size ≤ q → va_A [(h0, .inr (6, [.int 0, .int 0, .int 0, .int 0, .null, .null]))] s.heap.size q := fun q h => Or.inr h
  have hB : Bd (dC, dI) [(cyI, .int), (cyA, .array .int), (cyT, .object "UndoJourneysLaw$Trip")] (va_A [(h0, .inr (6, [.int 0, .int 0, .int 0, .int 0, .null, .null]))] s.heap.size) s [(h0, .inr (6, [.int 0, .int 0, .int 0, .int 0, .null, .null]))] s.heap [] := ⟨hP, hD0.self, va_S.rf⟩
  have hq1 : (Cond.methodLink RX6 1 objectInit).before _ s = true := hts _ (List.mem_of_getElem? (i := 1) rfl)
  have hq2 : (Cond.instanceMethod objectInit).before _ s = true := hts _ (List.mem_of_getElem? (i := 2) rfl)
  have hq3 : (Cond.code objectInit ⟨#[0xb1]⟩ 1 none).before _ s = true := hts _ (List.mem_of_getElem? (i := 3) rfl)
  have hq4 : (Cond.fieldLink RX6 7 "UndoJourneysLaw$World" "wait" "I").before _ s = true := hts _ (List.mem_of_getElem? (i := 4) rfl)
  have hq5 : (Cond.fieldLink RX6 13 "UndoJourneysLaw$World" "patience" "I").before _ s = true := hts _ (List.mem_of_getElem? (i := 5) rfl)
  have hq6 : (Cond.classLink RX6 16 "[I").before _ s = true := hts _ (List.mem_of_getElem? (i := 6) rfl)
  have hq7 : (Cond.fieldLink RX6 18 "UndoJourneysLaw$World" "stocks" "[[I").before _ s = true := hts _ (List.mem_of_getElem? (i := 7) rfl)
  have hq8 : (Cond.classLink RX6 22 RX5).before _ s = true := hts _ (List.mem_of_getElem? (i := 8) rfl)
  have hq9 : (Cond.fieldLink RX6 24 "UndoJourneysLaw$World" "trips" "[LUndoJourneysLaw$Trip;").before _ s = true := hts _ (List.mem_of_getElem? (i := 9) rfl)
  have hinX6 : ∀ w ∈ wsX60, w ∈ wsX6_init := fun w h => List.mem_cons_of_mem _ (List.mem_append_right _ h)
  have hl := lv_entry [.ref h0] (n := 1) (Nat.le_of_ble_eq_true rfl)
  rw [lg_entry_eq]
  generalize (lg_sl [.ref h0] ++ List.replicate (1 - (lg_sl [.ref h0]).length) Slot.unset).toArray = ls at hl ⊢
  have hl : lv_has ls 1 [(0, .ref h0)] := hl
  refine lv_aload_n hx hb dX6_init_0 rfl (lv_at hl 0 rfl) ?_
  refine g_objInit hx hb hown hml hl.1 hq1 hq2 hq3 dX6_init_1 (Nat.le_of_ble_eq_true rfl) (Nat.le_of_ble_eq_true rfl) ?_
  refine lv_aload_n hx hb dX6_init_4 rfl (lv_at hl 0 rfl) ?_
  refine lv_iconst (v := (5 : Int32)) hx hb dX6_init_5 (by decide) ?_
  refine g_put (C := RX6) (T := TX6) (N := 6) hx hb hts hinX6 tyX6 tyX6_ok nmX6 hown hK hB 0 rfl rfl 1 rfl hq4 rfl rfl rfl rfl rfl rfl dX6_init_6 (w2 := [(h0, .inr (6, [.int 0, .int (5 : Int32), .int 0, .int 0, .null, .null]))]) rfl (fun H locs hB => ?_)
  refine lv_aload_n hx hb dX6_init_9 rfl (lv_at hl 0 rfl) ?_
  refine lv_iconst (v := (3 : Int32)) hx hb dX6_init_10 (by decide) ?_
  refine g_put (C := RX6) (T := TX6) (N := 6) hx hb hts hinX6 tyX6 tyX6_ok nmX6 hown hK hB 0 rfl rfl 2 rfl hq5 rfl rfl rfl rfl rfl rfl dX6_init_11 (w2 := [(h0, .inr (6, [.int 0, .int (5 : Int32), .int (3 : Int32), .int 0, .null, .null]))]) rfl (fun H locs hB => ?_)
  refine lv_aload_n hx hb dX6_init_14 rfl (lv_at hl 0 rfl) ?_
  refine lv_iconst (v := (0 : Int32)) hx hb dX6_init_15 (by decide) ?_
  refine g_newqA 1 rfl hx hb hown hq6 hAO.1 hK hB hA 0 (by decide) (by decide) (Nat.le_of_ble_eq_true rfl) (Nat.le_of_ble_eq_true rfl) (Nat.le_of_ble_eq_true rfl) dX6_init_16 (fun q1 H locs hB => ?_)
  refine g_put (C := RX6) (T := TX6) (N := 6) hx hb hts hinX6 tyX6 tyX6_ok nmX6 hown hK hB 0 rfl rfl 4 rfl hq7 rfl rfl rfl rfl rfl rfl dX6_init_19 (w2 := [(h0, .inr (6, [.int 0, .int (5 : Int32), .int (3 : Int32), .int 0, .ref q1, .null])), (q1, .inl (cyA, 0, .inr (.inr (.inr (.inr (fun _ => none))))))]) rfl (fun H locs hB => ?_)
  refine lv_aload_n hx hb dX6_init_22 rfl (lv_at hl 0 rfl) ?_
  refine lv_iconst (v := (0 : Int32)) hx hb dX6_init_23 (by decide) ?_
  refine g_newq 2 rfl hx hb hown hq8 hAO.2 hK hB hA 0 (by decide) (by decide) (Nat.le_of_ble_eq_true rfl) (Nat.le_of_ble_eq_true rfl) (Nat.le_of_ble_eq_true rfl) dX6_init_24 (fun q2 H locs hB => ?_)
  refine g_put (C := RX6) (T := TX6) (N := 6) hx hb hts hinX6 tyX6 tyX6_ok nmX6 hown hK hB 0 rfl rfl 5 rfl hq9 rfl rfl rfl rfl rfl rfl dX6_init_27 (w2 := [(h0, .inr (6, [.int 0, .int (5 : Int32), .int (3 : Int32), .int 0, .ref q1, .ref q2])), (q1, .inl (cyA, 0, .inr (.inr (.inr (.inr (fun _ => none)))))), (q2, .inl (cyT, 0, .inr (.inr (.inr (.inr (fun _ => none))))))]) rfl (fun H locs hB => ?_)
  have hB := hB.refs 1 (g := fun k => some ((fun _ => 0 : PA) k)) rfl (fun j hj => absurd hj (Nat.not_lt_zero _))
  have hB := hB.refs 2 (g := fun k => some ((fun _ => 0 : PA) k)) rfl (fun j hj => absurd hj (Nat.not_lt_zero _))
  have hB : Bd (dC, dI) [(cyI, .int), (cyA, .array .int), (cyT, .object "UndoJourneysLaw$Trip")] (va_A [(h0, .inr (6, [.int 0, .int 0, .int 0, .int 0, .null, .null]))] s.heap.size) s ((fun u : Nat × Nat => cX cyI cyA cyT h0 u.1 u.2 (fun _ => 0) (fun _ => 0) (fun _ => 0) (fun _ _ => 0) 0 0 (fun _ => 0) ζ0 (fun _ _ => 0) (fun _ _ _ => 0) (fun _ _ _ => 0)) ((q1, q2))) H locs := hB
  exact g_vretX (S := Nat × Nat) (w1 := fun u => cX cyI cyA cyT h0 u.1 u.2 (fun _ => 0) (fun _ => 0) (fun _ => 0) (fun _ _ => 0) 0 0 (fun _ => 0) ζ0 (fun _ _ => 0) (fun _ _ _ => 0) (fun _ _ _ => 0)) (u := (q1, q2)) hx hb hr hlocks hK hB trivial (Nat.le_of_ble_eq_true rfl) (Nat.le_of_ble_eq_true rfl) dX6_init_30
