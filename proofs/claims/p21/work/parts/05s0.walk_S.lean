abbrev rmX0_stepsOf : Room := { frames := 0, cells := 0, slots := 0, locals := 0 }

set_option maxHeartbeats 4000000 in
set_option maxRecDepth 100000 in
theorem kX0_stepsOf (l : Launch) (dC : Nat → ClassId) (dI : Nat → Nat → Nat) (cyI : ClassId) (bd : Nat → Nat) (sz : Nat) {fu : Nat} {τ : MS} {i1 : Int32} {r : Int32} (hf : mX0_stepsOf fu τ i1 = some r) : Met l yX0_stepsOf wsX0_stepsOf rmX0_stepsOf (PcF (dC, dI) [(cyI, .int)] (cS cyI bd τ) sz [.ref (bd 0), .int i1]) (QiF (dC, dI) [(cyI, .int)] (cS cyI bd τ) (cS cyI bd τ) sz r) 0 0 (va_A (cS cyI bd τ) sz) := by
  refine Met.ofW (cc := cX0_stepsOf) (maxL := 2) (ret := (some .int)) (by decide) rfl ?_
  intro p e s m args below meth c s₁ B hml hv
  obtain ⟨rfl, hsz, hP, hK, hD0⟩ := hv
  have hx := B.exec
  have hb := B.bytes
  have hr := B.returns
  have hts := atoms_spec (ws := wsX0_stepsOf) B.pre
  have hown : s.vm.findClass RX0 = some m.cls := findClass_of_methodNamed B.named
  have hlocks := B.notSynchronized
  subst hsz
  have hA : ∀ q : Nat, s.heap.size ≤ q → va_A (cS cyI bd τ) s.heap.size q := fun q h => Or.inr h
  have hB : Bd (dC, dI) [(cyI, .int)] (va_A (cS cyI bd τ) s.heap.size) s (cS cyI bd τ) s.heap [] := ⟨hP, hD0.self, va_S.rf⟩
  have hq1 : (Cond.fieldLink RX0 40 "UndoJourneys$Setup" "endStep" "[I").before _ s = true := hts _ (List.mem_of_getElem? (i := 1) rfl)
  have hq2 : (Cond.fieldLink RX0 37 "UndoJourneys$Setup" "firstStep" "[I").before _ s = true := hts _ (List.mem_of_getElem? (i := 2) rfl)
  have hinX0 : ∀ w ∈ wsX00, w ∈ wsX0_stepsOf := fun w h => List.mem_cons_of_mem _ (List.mem_append_right _ h)
  have hl := lv_entry [.ref (bd 0), .int i1] (n := 2) (Nat.le_of_ble_eq_true rfl)
  rw [lg_entry_eq]
  generalize (lg_sl [.ref (bd 0), .int i1] ++ List.replicate (2 - (lg_sl [.ref (bd 0), .int i1]).length) Slot.unset).toArray = ls at hl ⊢
  have hl : lv_has ls 2 [(0, .ref (bd 0)), (1, .int i1)] := hl
  clear hP hD0
  suffices main : ∀ (H : Heap) (locs : List Loc), Bd (dC, dI) [(cyI, .int)] (va_A (cS cyI bd τ) s.heap.size) s (cS cyI bd τ) H locs → W p l e (headSpec wsX0_stepsOf rmX0_stepsOf).room s m ([.ref (bd 0), .int i1] : List Value).toArray below meth c H locs 0 0 (MQ below (QiF (dC, dI) [(cyI, .int)] (cS cyI bd τ) (cS cyI bd τ) s.heap.size r) ([.ref (bd 0), .int i1] : List Value).toArray s 0 0 (va_A (cS cyI bd τ) s.heap.size)) (F0 m 0 ls []) from main _ _ hB
  clear hB
  intro H locs hB
  unfold mX0_stepsOf at hf
  refine lv_aload_n hx hb dX0_stepsOf_0 rfl (lv_at hl 0 rfl) ?_
  refine g_get (C := RX0) (T := TX0) (N := 17) hx hb hts hinX0 hown hK hB 0 rfl rfl 9 rfl hq1 rfl rfl dX0_stepsOf_1 ?_
  refine lv_iload_n hx hb dX0_stepsOf_4 rfl (lv_at hl 1 rfl) ?_
  obtain ⟨x1, e9, hf⟩ := ob1_s hf
  refine g_iald hx hb hK hB 6 0 rfl rfl (rd_s e9) dX0_stepsOf_5 ?_
  refine lv_aload_n hx hb dX0_stepsOf_6 rfl (lv_at hl 0 rfl) ?_
  refine g_get (C := RX0) (T := TX0) (N := 17) hx hb hts hinX0 hown hK hB 0 rfl rfl 8 rfl hq2 rfl rfl dX0_stepsOf_7 ?_
  refine lv_iload_n hx hb dX0_stepsOf_10 rfl (lv_at hl 1 rfl) ?_
  obtain ⟨x2, e9, hf⟩ := ob1_s hf
  refine g_iald hx hb hK hB 5 0 rfl rfl (rd_s e9) dX0_stepsOf_11 ?_
  refine lv_isub hx hb dX0_stepsOf_12 ?_
  have e0 := inj1 hf
  subst e0
  exact g_iret hx hb hr hlocks hK hB dX0_stepsOf_13

abbrev rmX0_hasRoomForStock : Room := { frames := 0, cells := 0, slots := 0, locals := 0 }

set_option maxHeartbeats 4000000 in
set_option maxRecDepth 100000 in
theorem kX0_hasRoomForStock (l : Launch) (dC : Nat → ClassId) (dI : Nat → Nat → Nat) (cyI : ClassId) (bd : Nat → Nat) (sz : Nat) {fu : Nat} {τ : MS} {r : Int32} (hf : mX0_hasRoomForStock fu τ = some r) : Met l yX0_hasRoomForStock wsX0_hasRoomForStock rmX0_hasRoomForStock (PcF (dC, dI) [(cyI, .int)] (cS cyI bd τ) sz [.ref (bd 0)]) (QzF (dC, dI) [(cyI, .int)] (cS cyI bd τ) (cS cyI bd τ) sz r) 0 0 (va_A (cS cyI bd τ) sz) := by
  refine Met.ofW (cc := cX0_hasRoomForStock) (maxL := 1) (ret := (some .boolean)) (by decide) rfl ?_
  intro p e s m args below meth c s₁ B hml hv
  obtain ⟨rfl, hsz, hP, hK, hD0⟩ := hv
  have hx := B.exec
  have hb := B.bytes
  have hr := B.returns
  have hts := atoms_spec (ws := wsX0_hasRoomForStock) B.pre
  have hown : s.vm.findClass RX0 = some m.cls := findClass_of_methodNamed B.named
  have hlocks := B.notSynchronized
  subst hsz
  have hA : ∀ q : Nat, s.heap.size ≤ q → va_A (cS cyI bd τ) s.heap.size q := fun q h => Or.inr h
  have hB : Bd (dC, dI) [(cyI, .int)] (va_A (cS cyI bd τ) s.heap.size) s (cS cyI bd τ) s.heap [] := ⟨hP, hD0.self, va_S.rf⟩
  have hq1 : (Cond.fieldLink RX0 18 "UndoJourneys$Setup" "stocks" "I").before _ s = true := hts _ (List.mem_of_getElem? (i := 1) rfl)
  have hinX0 : ∀ w ∈ wsX00, w ∈ wsX0_hasRoomForStock := fun w h => List.mem_cons_of_mem _ (List.mem_append_right _ h)
  have hl := lv_entry [.ref (bd 0)] (n := 1) (Nat.le_of_ble_eq_true rfl)
  rw [lg_entry_eq]
  generalize (lg_sl [.ref (bd 0)] ++ List.replicate (1 - (lg_sl [.ref (bd 0)]).length) Slot.unset).toArray = ls at hl ⊢
  have hl : lv_has ls 1 [(0, .ref (bd 0))] := hl
  clear hP hD0
  suffices main : ∀ (H : Heap) (locs : List Loc), Bd (dC, dI) [(cyI, .int)] (va_A (cS cyI bd τ) s.heap.size) s (cS cyI bd τ) H locs → W p l e (headSpec wsX0_hasRoomForStock rmX0_hasRoomForStock).room s m ([.ref (bd 0)] : List Value).toArray below meth c H locs 0 0 (MQ below (QzF (dC, dI) [(cyI, .int)] (cS cyI bd τ) (cS cyI bd τ) s.heap.size r) ([.ref (bd 0)] : List Value).toArray s 0 0 (va_A (cS cyI bd τ) s.heap.size)) (F0 m 0 ls []) from main _ _ hB
  clear hB
  intro H locs hB
  unfold mX0_hasRoomForStock at hf
  refine lv_aload_n hx hb dX0_hasRoomForStock_0 rfl (lv_at hl 0 rfl) ?_
  refine g_get (C := RX0) (T := TX0) (N := 17) hx hb hts hinX0 hown hK hB 0 rfl rfl 2 rfl hq1 rfl rfl dX0_hasRoomForStock_1 ?_
  refine lv_bipush (v := (6 : Int32)) hx hb dX0_hasRoomForStock_4 (by decide) ?_
  obtain ⟨v1, hJ3, hf⟩ := ob1_s hf
  have kJ4 : (v1 = 0 ∨ v1 = 1) → ∀ (H : Heap) (locs : List Loc) (ls : Array Slot), Bd (dC, dI) [(cyI, .int)] (va_A (cS cyI bd τ) s.heap.size) s (cS cyI bd τ) H locs → lv_has ls 1 [] → W p l e (headSpec wsX0_hasRoomForStock rmX0_hasRoomForStock).room s m ([.ref (bd 0)] : List Value).toArray below meth c H locs 0 0 (MQ below (QzF (dC, dI) [(cyI, .int)] (cS cyI bd τ) (cS cyI bd τ) s.heap.size r) ([.ref (bd 0)] : List Value).toArray s 0 0 (va_A (cS cyI bd τ) s.heap.size)) (F0 m 14 ls [.int v1]) := by
    intro z2 H locs ls hB hl
    have e0 := inj1 hf
    subst e0
    exact g_zret hx hb hr hlocks hK hB z2 dX0_hasRoomForStock_14
  refine lv_icmp_ge (tgt := 13) hx hb dX0_hasRoomForStock_6 (by decide) (fun c5 => ?_) (fun c5 => ?_)
  · have hJ3 := ite_t c5 hJ3
    refine lv_iconst (v := (0 : Int32)) hx hb dX0_hasRoomForStock_13 (by decide) ?_
    have e0 := inj1 hJ3
    subst e0
    exact kJ4 (Or.inl rfl) _ _ _ hB (lv_sub hl [] rfl)
  · have hJ3 := ite_f c5 hJ3
    refine lv_iconst (v := (1 : Int32)) hx hb dX0_hasRoomForStock_9 (by decide) ?_
    refine lv_goto (tgt := 14) hx hb dX0_hasRoomForStock_10 (by decide) ?_
    have e0 := inj1 hJ3
    subst e0
    exact kJ4 (Or.inr rfl) _ _ _ hB (lv_sub hl [] rfl)

abbrev rmX0_hasRoomForJourney : Room := { frames := 0, cells := 0, slots := 0, locals := 0 }

set_option maxHeartbeats 4000000 in
set_option maxRecDepth 100000 in
theorem kX0_hasRoomForJourney (l : Launch) (dC : Nat → ClassId) (dI : Nat → Nat → Nat) (cyI : ClassId) (bd : Nat → Nat) (sz : Nat) {fu : Nat} {τ : MS} {r : Int32} (hf : mX0_hasRoomForJourney fu τ = some r) : Met l yX0_hasRoomForJourney wsX0_hasRoomForJourney rmX0_hasRoomForJourney (PcF (dC, dI) [(cyI, .int)] (cS cyI bd τ) sz [.ref (bd 0)]) (QzF (dC, dI) [(cyI, .int)] (cS cyI bd τ) (cS cyI bd τ) sz r) 0 0 (va_A (cS cyI bd τ) sz) := by
  refine Met.ofW (cc := cX0_hasRoomForJourney) (maxL := 1) (ret := (some .boolean)) (by decide) rfl ?_
  intro p e s m args below meth c s₁ B hml hv
  obtain ⟨rfl, hsz, hP, hK, hD0⟩ := hv
  have hx := B.exec
  have hb := B.bytes
  have hr := B.returns
  have hts := atoms_spec (ws := wsX0_hasRoomForJourney) B.pre
  have hown : s.vm.findClass RX0 = some m.cls := findClass_of_methodNamed B.named
  have hlocks := B.notSynchronized
  subst hsz
  have hA : ∀ q : Nat, s.heap.size ≤ q → va_A (cS cyI bd τ) s.heap.size q := fun q h => Or.inr h
  have hB : Bd (dC, dI) [(cyI, .int)] (va_A (cS cyI bd τ) s.heap.size) s (cS cyI bd τ) s.heap [] := ⟨hP, hD0.self, va_S.rf⟩
  have hq1 : (Cond.fieldLink RX0 28 "UndoJourneys$Setup" "journeys" "I").before _ s = true := hts _ (List.mem_of_getElem? (i := 1) rfl)
  have hinX0 : ∀ w ∈ wsX00, w ∈ wsX0_hasRoomForJourney := fun w h => List.mem_cons_of_mem _ (List.mem_append_right _ h)
  have hl := lv_entry [.ref (bd 0)] (n := 1) (Nat.le_of_ble_eq_true rfl)
  rw [lg_entry_eq]
  generalize (lg_sl [.ref (bd 0)] ++ List.replicate (1 - (lg_sl [.ref (bd 0)]).length) Slot.unset).toArray = ls at hl ⊢
  have hl : lv_has ls 1 [(0, .ref (bd 0))] := hl
  clear hP hD0
  suffices main : ∀ (H : Heap) (locs : List Loc), Bd (dC, dI) [(cyI, .int)] (va_A (cS cyI bd τ) s.heap.size) s (cS cyI bd τ) H locs → W p l e (headSpec wsX0_hasRoomForJourney rmX0_hasRoomForJourney).room s m ([.ref (bd 0)] : List Value).toArray below meth c H locs 0 0 (MQ below (QzF (dC, dI) [(cyI, .int)] (cS cyI bd τ) (cS cyI bd τ) s.heap.size r) ([.ref (bd 0)] : List Value).toArray s 0 0 (va_A (cS cyI bd τ) s.heap.size)) (F0 m 0 ls []) from main _ _ hB
  clear hB
  intro H locs hB
  unfold mX0_hasRoomForJourney at hf
  refine lv_aload_n hx hb dX0_hasRoomForJourney_0 rfl (lv_at hl 0 rfl) ?_
  refine g_get (C := RX0) (T := TX0) (N := 17) hx hb hts hinX0 hown hK hB 0 rfl rfl 5 rfl hq1 rfl rfl dX0_hasRoomForJourney_1 ?_
  refine lv_bipush (v := (8 : Int32)) hx hb dX0_hasRoomForJourney_4 (by decide) ?_
  obtain ⟨v1, hJ3, hf⟩ := ob1_s hf
  have kJ4 : (v1 = 0 ∨ v1 = 1) → ∀ (H : Heap) (locs : List Loc) (ls : Array Slot), Bd (dC, dI) [(cyI, .int)] (va_A (cS cyI bd τ) s.heap.size) s (cS cyI bd τ) H locs → lv_has ls 1 [] → W p l e (headSpec wsX0_hasRoomForJourney rmX0_hasRoomForJourney).room s m ([.ref (bd 0)] : List Value).toArray below meth c H locs 0 0 (MQ below (QzF (dC, dI) [(cyI, .int)] (cS cyI bd τ) (cS cyI bd τ) s.heap.size r) ([.ref (bd 0)] : List Value).toArray s 0 0 (va_A (cS cyI bd τ) s.heap.size)) (F0 m 14 ls [.int v1]) := by
    intro z2 H locs ls hB hl
    have e0 := inj1 hf
    subst e0
    exact g_zret hx hb hr hlocks hK hB z2 dX0_hasRoomForJourney_14
  refine lv_icmp_ge (tgt := 13) hx hb dX0_hasRoomForJourney_6 (by decide) (fun c5 => ?_) (fun c5 => ?_)
  · have hJ3 := ite_t c5 hJ3
    refine lv_iconst (v := (0 : Int32)) hx hb dX0_hasRoomForJourney_13 (by decide) ?_
    have e0 := inj1 hJ3
    subst e0
    exact kJ4 (Or.inl rfl) _ _ _ hB (lv_sub hl [] rfl)
  · have hJ3 := ite_f c5 hJ3
    refine lv_iconst (v := (1 : Int32)) hx hb dX0_hasRoomForJourney_9 (by decide) ?_
    refine lv_goto (tgt := 14) hx hb dX0_hasRoomForJourney_10 (by decide) ?_
    have e0 := inj1 hJ3
    subst e0
    exact kJ4 (Or.inr rfl) _ _ _ hB (lv_sub hl [] rfl)

abbrev rmX0_hasRoomForStep : Room := { frames := 0, cells := 0, slots := 0, locals := 0 }

set_option maxHeartbeats 4000000 in
set_option maxRecDepth 100000 in
theorem kX0_hasRoomForStep (l : Launch) (dC : Nat → ClassId) (dI : Nat → Nat → Nat) (cyI : ClassId) (bd : Nat → Nat) (sz : Nat) {fu : Nat} {τ : MS} {r : Int32} (hf : mX0_hasRoomForStep fu τ = some r) : Met l yX0_hasRoomForStep wsX0_hasRoomForStep rmX0_hasRoomForStep (PcF (dC, dI) [(cyI, .int)] (cS cyI bd τ) sz [.ref (bd 0)]) (QzF (dC, dI) [(cyI, .int)] (cS cyI bd τ) (cS cyI bd τ) sz r) 0 0 (va_A (cS cyI bd τ) sz) := by
  refine Met.ofW (cc := cX0_hasRoomForStep) (maxL := 1) (ret := (some .boolean)) (by decide) rfl ?_
  intro p e s m args below meth c s₁ B hml hv
  obtain ⟨rfl, hsz, hP, hK, hD0⟩ := hv
  have hx := B.exec
  have hb := B.bytes
  have hr := B.returns
  have hts := atoms_spec (ws := wsX0_hasRoomForStep) B.pre
  have hown : s.vm.findClass RX0 = some m.cls := findClass_of_methodNamed B.named
  have hlocks := B.notSynchronized
  subst hsz
  have hA : ∀ q : Nat, s.heap.size ≤ q → va_A (cS cyI bd τ) s.heap.size q := fun q h => Or.inr h
  have hB : Bd (dC, dI) [(cyI, .int)] (va_A (cS cyI bd τ) s.heap.size) s (cS cyI bd τ) s.heap [] := ⟨hP, hD0.self, va_S.rf⟩
  have hq1 : (Cond.fieldLink RX0 43 "UndoJourneys$Setup" "steps" "I").before _ s = true := hts _ (List.mem_of_getElem? (i := 1) rfl)
  have hinX0 : ∀ w ∈ wsX00, w ∈ wsX0_hasRoomForStep := fun w h => List.mem_cons_of_mem _ (List.mem_append_right _ h)
  have hl := lv_entry [.ref (bd 0)] (n := 1) (Nat.le_of_ble_eq_true rfl)
  rw [lg_entry_eq]
  generalize (lg_sl [.ref (bd 0)] ++ List.replicate (1 - (lg_sl [.ref (bd 0)]).length) Slot.unset).toArray = ls at hl ⊢
  have hl : lv_has ls 1 [(0, .ref (bd 0))] := hl
  clear hP hD0
  suffices main : ∀ (H : Heap) (locs : List Loc), Bd (dC, dI) [(cyI, .int)] (va_A (cS cyI bd τ) s.heap.size) s (cS cyI bd τ) H locs → W p l e (headSpec wsX0_hasRoomForStep rmX0_hasRoomForStep).room s m ([.ref (bd 0)] : List Value).toArray below meth c H locs 0 0 (MQ below (QzF (dC, dI) [(cyI, .int)] (cS cyI bd τ) (cS cyI bd τ) s.heap.size r) ([.ref (bd 0)] : List Value).toArray s 0 0 (va_A (cS cyI bd τ) s.heap.size)) (F0 m 0 ls []) from main _ _ hB
  clear hB
  intro H locs hB
  unfold mX0_hasRoomForStep at hf
  refine lv_aload_n hx hb dX0_hasRoomForStep_0 rfl (lv_at hl 0 rfl) ?_
  refine g_get (C := RX0) (T := TX0) (N := 17) hx hb hts hinX0 hown hK hB 0 rfl rfl 10 rfl hq1 rfl rfl dX0_hasRoomForStep_1 ?_
  refine lv_bipush (v := (40 : Int32)) hx hb dX0_hasRoomForStep_4 (by decide) ?_
  obtain ⟨v1, hJ3, hf⟩ := ob1_s hf
  have kJ4 : (v1 = 0 ∨ v1 = 1) → ∀ (H : Heap) (locs : List Loc) (ls : Array Slot), Bd (dC, dI) [(cyI, .int)] (va_A (cS cyI bd τ) s.heap.size) s (cS cyI bd τ) H locs → lv_has ls 1 [] → W p l e (headSpec wsX0_hasRoomForStep rmX0_hasRoomForStep).room s m ([.ref (bd 0)] : List Value).toArray below meth c H locs 0 0 (MQ below (QzF (dC, dI) [(cyI, .int)] (cS cyI bd τ) (cS cyI bd τ) s.heap.size r) ([.ref (bd 0)] : List Value).toArray s 0 0 (va_A (cS cyI bd τ) s.heap.size)) (F0 m 14 ls [.int v1]) := by
    intro z2 H locs ls hB hl
    have e0 := inj1 hf
    subst e0
    exact g_zret hx hb hr hlocks hK hB z2 dX0_hasRoomForStep_14
  refine lv_icmp_ge (tgt := 13) hx hb dX0_hasRoomForStep_6 (by decide) (fun c5 => ?_) (fun c5 => ?_)
  · have hJ3 := ite_t c5 hJ3
    refine lv_iconst (v := (0 : Int32)) hx hb dX0_hasRoomForStep_13 (by decide) ?_
    have e0 := inj1 hJ3
    subst e0
    exact kJ4 (Or.inl rfl) _ _ _ hB (lv_sub hl [] rfl)
  · have hJ3 := ite_f c5 hJ3
    refine lv_iconst (v := (1 : Int32)) hx hb dX0_hasRoomForStep_9 (by decide) ?_
    refine lv_goto (tgt := 14) hx hb dX0_hasRoomForStep_10 (by decide) ?_
    have e0 := inj1 hJ3
    subst e0
    exact kJ4 (Or.inr rfl) _ _ _ hB (lv_sub hl [] rfl)

abbrev rmX0_addStock : Room := { frames := 1, cells := 0, slots := 0, locals := 20 }

set_option maxHeartbeats 4000000 in
set_option maxRecDepth 100000 in
theorem kX0_addStock (l : Launch) (dC : Nat → ClassId) (dI : Nat → Nat → Nat) (cyI : ClassId) (bd : Nat → Nat) (sz : Nat) {fu : Nat} {τ : MS} {i1 : Int32} {i2 : Int32} {τ_ : MS} (hf : mX0_addStock fu τ i1 i2 = some τ_) : Met l yX0_addStock wsX0_addStock rmX0_addStock (PcF (dC, dI) [(cyI, .int)] (cS cyI bd τ) sz [.ref (bd 0), .int i1, .int i2]) (QvF (dC, dI) [(cyI, .int)] (cS cyI bd τ) (cS cyI bd τ_) sz) 0 0 (va_A (cS cyI bd τ) sz) := by
  refine Met.ofW (cc := cX0_addStock) (maxL := 3) (ret := none) (by decide) rfl ?_
  intro p e s m args below meth c s₁ B hml hv
  obtain ⟨rfl, hsz, hP, hK, hD0⟩ := hv
  have hx := B.exec
  have hb := B.bytes
  have hr := B.returns
  have hts := atoms_spec (ws := wsX0_addStock) B.pre
  have hown : s.vm.findClass RX0 = some m.cls := findClass_of_methodNamed B.named
  have hlocks := B.notSynchronized
  subst hsz
  have hA : ∀ q : Nat, s.heap.size ≤ q → va_A (cS cyI bd τ) s.heap.size q := fun q h => Or.inr h
  have hB : Bd (dC, dI) [(cyI, .int)] (va_A (cS cyI bd τ) s.heap.size) s (cS cyI bd τ) s.heap [] := ⟨hP, hD0.self, va_S.rf⟩
  have hq1 : (Cond.fieldLink RX0 21 "UndoJourneys$Setup" "firstLevel" "[I").before _ s = true := hts _ (List.mem_of_getElem? (i := 1) rfl)
  have hq2 : (Cond.fieldLink RX0 18 "UndoJourneys$Setup" "stocks" "I").before _ s = true := hts _ (List.mem_of_getElem? (i := 2) rfl)
  have hq3 : (Cond.fieldLink RX0 25 "UndoJourneys$Setup" "guard" "[I").before _ s = true := hts _ (List.mem_of_getElem? (i := 3) rfl)
  have hinX0 : ∀ w ∈ wsX00, w ∈ wsX0_addStock := fun w h => List.mem_cons_of_mem _ (List.mem_append_right _ h)
  have hl := lv_entry [.ref (bd 0), .int i1, .int i2] (n := 3) (Nat.le_of_ble_eq_true rfl)
  rw [lg_entry_eq]
  generalize (lg_sl [.ref (bd 0), .int i1, .int i2] ++ List.replicate (3 - (lg_sl [.ref (bd 0), .int i1, .int i2]).length) Slot.unset).toArray = ls at hl ⊢
  have hl : lv_has ls 3 [(0, .ref (bd 0)), (1, .int i1), (2, .int i2)] := hl
  clear hP hD0
  suffices main : ∀ (H : Heap) (locs : List Loc), Bd (dC, dI) [(cyI, .int)] (va_A (cS cyI bd τ) s.heap.size) s (cS cyI bd τ) H locs → W p l e (headSpec wsX0_addStock rmX0_addStock).room s m ([.ref (bd 0), .int i1, .int i2] : List Value).toArray below meth c H locs 0 0 (MQ below (QvF (dC, dI) [(cyI, .int)] (cS cyI bd τ) (cS cyI bd τ_) s.heap.size) ([.ref (bd 0), .int i1, .int i2] : List Value).toArray s 0 0 (va_A (cS cyI bd τ) s.heap.size)) (F0 m 0 ls []) from main _ _ hB
  clear hB
  intro H locs hB
  unfold mX0_addStock at hf
  refine lv_aload_n hx hb dX0_addStock_0 rfl (lv_at hl 0 rfl) ?_
  obtain ⟨r1, hc, hf⟩ := ob1_s hf
  refine g_callVz (As := []) (rest := []) ⟨hx, hb, hml, hown, hts⟩ (kX0_hasRoomForStock l dC dI cyI bd H.size hc) (cwV 0 hts gX0_addStock_X0_hasRoomForStock rfl rfl rfl (by decide +kernel) ⟨Nat.le_of_ble_eq_true rfl, Nat.le_of_ble_eq_true rfl⟩) hK hB hA (g_recv (ci := 0) hK hB 0 rfl rfl rfl) rfl hl.1 rfl (Nat.le_of_ble_eq_true rfl) dX0_addStock_1 ⟨Nat.zero_le _, Nat.zero_le _⟩ (fun z2 H locs hB => ?_)
  obtain ⟨τ3, hJ4, hf⟩ := ob1_s hf
  have kJ5 : ∀ (H : Heap) (locs : List Loc) (ls : Array Slot), Bd (dC, dI) [(cyI, .int)] (va_A (cS cyI bd τ) s.heap.size) s (cS cyI bd τ3) H locs → lv_has ls 3 [] → W p l e (headSpec wsX0_addStock rmX0_addStock).room s m ([.ref (bd 0), .int i1, .int i2] : List Value).toArray below meth c H locs 0 0 (MQ below (QvF (dC, dI) [(cyI, .int)] (cS cyI bd τ) (cS cyI bd τ_) s.heap.size) ([.ref (bd 0), .int i1, .int i2] : List Value).toArray s 0 0 (va_A (cS cyI bd τ) s.heap.size)) (F0 m 37 ls []) := by
    intro H locs ls hB hl
    have e0 := inj1 hf
    subst e0
    exact g_vret hx hb hr hlocks hK hB dX0_addStock_37
  refine lv_if_eq (tgt := 37) hx hb dX0_addStock_4 (by decide) (fun c6 => ?_) (fun c6 => ?_)
  · have hJ4 := ite_t c6 hJ4
    have e0 := inj1 hJ4
    subst e0
    exact kJ5 _ _ _ hB (lv_sub hl [] rfl)
  · have hJ4 := ite_f c6 hJ4
    refine lv_aload_n hx hb dX0_addStock_7 rfl (lv_at hl 0 rfl) ?_
    refine g_get (C := RX0) (T := TX0) (N := 17) hx hb hts hinX0 hown hK hB 0 rfl rfl 3 rfl hq1 rfl rfl dX0_addStock_8 ?_
    refine lv_aload_n hx hb dX0_addStock_11 rfl (lv_at hl 0 rfl) ?_
    refine g_get (C := RX0) (T := TX0) (N := 17) hx hb hts hinX0 hown hK hB 0 rfl rfl 2 rfl hq2 rfl rfl dX0_addStock_12 ?_
    refine lv_iload_n hx hb dX0_addStock_15 rfl (lv_at hl 1 rfl) ?_
    obtain ⟨τ7, e9, hJ4⟩ := ob1_s hJ4
    obtain ⟨hi, e9⟩ := wra_s e9
    refine g_iast hx hb hK hB 1 0 rfl rfl hi rfl dX0_addStock_16 (w2 := (cS cyI bd τ7)) (by rw [← e9]; rfl) (fun H locs hB => ?_)
    refine lv_aload_n hx hb dX0_addStock_17 rfl (lv_at hl 0 rfl) ?_
    refine g_get (C := RX0) (T := TX0) (N := 17) hx hb hts hinX0 hown hK hB 0 rfl rfl 4 rfl hq3 rfl rfl dX0_addStock_18 ?_
    refine lv_aload_n hx hb dX0_addStock_21 rfl (lv_at hl 0 rfl) ?_
    refine g_get (C := RX0) (T := TX0) (N := 17) hx hb hts hinX0 hown hK hB 0 rfl rfl 2 rfl hq2 rfl rfl dX0_addStock_22 ?_
    refine lv_iload_n hx hb dX0_addStock_25 rfl (lv_at hl 2 rfl) ?_
    obtain ⟨τ8, e9, hJ4⟩ := ob1_s hJ4
    obtain ⟨hi, e9⟩ := wra_s e9
    refine g_iast hx hb hK hB 2 0 rfl rfl hi rfl dX0_addStock_26 (w2 := (cS cyI bd τ8)) (by rw [← e9]; rfl) (fun H locs hB => ?_)
    refine lv_aload_n hx hb dX0_addStock_27 rfl (lv_at hl 0 rfl) ?_
    refine lv_dup hx hb dX0_addStock_28 rfl ?_
    refine g_get (C := RX0) (T := TX0) (N := 17) hx hb hts hinX0 hown hK hB 0 rfl rfl 2 rfl hq2 rfl rfl dX0_addStock_29 ?_
    refine lv_iconst (v := (1 : Int32)) hx hb dX0_addStock_32 (by decide) ?_
    refine lv_iadd hx hb dX0_addStock_33 ?_
    obtain ⟨τ9, e9, hJ4⟩ := ob1_s hJ4
    have e9 := inj1 e9
    refine g_put (C := RX0) (T := TX0) (N := 17) hx hb hts hinX0 tyX0 tyX0_ok nmX0 hown hK hB 0 rfl rfl 2 rfl hq2 rfl rfl rfl rfl rfl rfl dX0_addStock_34 (w2 := (cS cyI bd τ9)) (by rw [← e9]; rfl) (fun H locs hB => ?_)
    have e0 := inj1 hJ4
    subst e0
    exact kJ5 _ _ _ hB (lv_sub hl [] rfl)

abbrev rmX0_addJourney : Room := { frames := 1, cells := 0, slots := 0, locals := 20 }

set_option maxHeartbeats 4000000 in
set_option maxRecDepth 100000 in
theorem kX0_addJourney (l : Launch) (dC : Nat → ClassId) (dI : Nat → Nat → Nat) (cyI : ClassId) (bd : Nat → Nat) (sz : Nat) {fu : Nat} {τ : MS} {i1 : Int32} {τ_ : MS} (hf : mX0_addJourney fu τ i1 = some τ_) : Met l yX0_addJourney wsX0_addJourney rmX0_addJourney (PcF (dC, dI) [(cyI, .int)] (cS cyI bd τ) sz [.ref (bd 0), .int i1]) (QvF (dC, dI) [(cyI, .int)] (cS cyI bd τ) (cS cyI bd τ_) sz) 0 0 (va_A (cS cyI bd τ) sz) := by
  refine Met.ofW (cc := cX0_addJourney) (maxL := 2) (ret := none) (by decide) rfl ?_
  intro p e s m args below meth c s₁ B hml hv
  obtain ⟨rfl, hsz, hP, hK, hD0⟩ := hv
  have hx := B.exec
  have hb := B.bytes
  have hr := B.returns
  have hts := atoms_spec (ws := wsX0_addJourney) B.pre
  have hown : s.vm.findClass RX0 = some m.cls := findClass_of_methodNamed B.named
  have hlocks := B.notSynchronized
  subst hsz
  have hA : ∀ q : Nat, s.heap.size ≤ q → va_A (cS cyI bd τ) s.heap.size q := fun q h => Or.inr h
  have hB : Bd (dC, dI) [(cyI, .int)] (va_A (cS cyI bd τ) s.heap.size) s (cS cyI bd τ) s.heap [] := ⟨hP, hD0.self, va_S.rf⟩
  have hq1 : (Cond.fieldLink RX0 31 "UndoJourneys$Setup" "start" "[I").before _ s = true := hts _ (List.mem_of_getElem? (i := 1) rfl)
  have hq2 : (Cond.fieldLink RX0 28 "UndoJourneys$Setup" "journeys" "I").before _ s = true := hts _ (List.mem_of_getElem? (i := 2) rfl)
  have hq3 : (Cond.fieldLink RX0 37 "UndoJourneys$Setup" "firstStep" "[I").before _ s = true := hts _ (List.mem_of_getElem? (i := 3) rfl)
  have hq4 : (Cond.fieldLink RX0 43 "UndoJourneys$Setup" "steps" "I").before _ s = true := hts _ (List.mem_of_getElem? (i := 4) rfl)
  have hq5 : (Cond.fieldLink RX0 40 "UndoJourneys$Setup" "endStep" "[I").before _ s = true := hts _ (List.mem_of_getElem? (i := 5) rfl)
  have hinX0 : ∀ w ∈ wsX00, w ∈ wsX0_addJourney := fun w h => List.mem_cons_of_mem _ (List.mem_append_right _ h)
  have hl := lv_entry [.ref (bd 0), .int i1] (n := 2) (Nat.le_of_ble_eq_true rfl)
  rw [lg_entry_eq]
  generalize (lg_sl [.ref (bd 0), .int i1] ++ List.replicate (2 - (lg_sl [.ref (bd 0), .int i1]).length) Slot.unset).toArray = ls at hl ⊢
  have hl : lv_has ls 2 [(0, .ref (bd 0)), (1, .int i1)] := hl
  clear hP hD0
  suffices main : ∀ (H : Heap) (locs : List Loc), Bd (dC, dI) [(cyI, .int)] (va_A (cS cyI bd τ) s.heap.size) s (cS cyI bd τ) H locs → W p l e (headSpec wsX0_addJourney rmX0_addJourney).room s m ([.ref (bd 0), .int i1] : List Value).toArray below meth c H locs 0 0 (MQ below (QvF (dC, dI) [(cyI, .int)] (cS cyI bd τ) (cS cyI bd τ_) s.heap.size) ([.ref (bd 0), .int i1] : List Value).toArray s 0 0 (va_A (cS cyI bd τ) s.heap.size)) (F0 m 0 ls []) from main _ _ hB
  clear hB
  intro H locs hB
  unfold mX0_addJourney at hf
  refine lv_aload_n hx hb dX0_addJourney_0 rfl (lv_at hl 0 rfl) ?_
  obtain ⟨r1, hc, hf⟩ := ob1_s hf
  refine g_callVz (As := []) (rest := []) ⟨hx, hb, hml, hown, hts⟩ (kX0_hasRoomForJourney l dC dI cyI bd H.size hc) (cwV 0 hts gX0_addJourney_X0_hasRoomForJourney rfl rfl rfl (by decide +kernel) ⟨Nat.le_of_ble_eq_true rfl, Nat.le_of_ble_eq_true rfl⟩) hK hB hA (g_recv (ci := 0) hK hB 0 rfl rfl rfl) rfl hl.1 rfl (Nat.le_of_ble_eq_true rfl) dX0_addJourney_1 ⟨Nat.zero_le _, Nat.zero_le _⟩ (fun z2 H locs hB => ?_)
  obtain ⟨τ3, hJ4, hf⟩ := ob1_s hf
  have kJ5 : ∀ (H : Heap) (locs : List Loc) (ls : Array Slot), Bd (dC, dI) [(cyI, .int)] (va_A (cS cyI bd τ) s.heap.size) s (cS cyI bd τ3) H locs → lv_has ls 2 [] → W p l e (headSpec wsX0_addJourney rmX0_addJourney).room s m ([.ref (bd 0), .int i1] : List Value).toArray below meth c H locs 0 0 (MQ below (QvF (dC, dI) [(cyI, .int)] (cS cyI bd τ) (cS cyI bd τ_) s.heap.size) ([.ref (bd 0), .int i1] : List Value).toArray s 0 0 (va_A (cS cyI bd τ) s.heap.size)) (F0 m 53 ls []) := by
    intro H locs ls hB hl
    have e0 := inj1 hf
    subst e0
    exact g_vret hx hb hr hlocks hK hB dX0_addJourney_53
  refine lv_if_eq (tgt := 53) hx hb dX0_addJourney_4 (by decide) (fun c6 => ?_) (fun c6 => ?_)
  · have hJ4 := ite_t c6 hJ4
    have e0 := inj1 hJ4
    subst e0
    exact kJ5 _ _ _ hB (lv_sub hl [] rfl)
  · have hJ4 := ite_f c6 hJ4
    refine lv_aload_n hx hb dX0_addJourney_7 rfl (lv_at hl 0 rfl) ?_
    refine g_get (C := RX0) (T := TX0) (N := 17) hx hb hts hinX0 hown hK hB 0 rfl rfl 6 rfl hq1 rfl rfl dX0_addJourney_8 ?_
    refine lv_aload_n hx hb dX0_addJourney_11 rfl (lv_at hl 0 rfl) ?_
    refine g_get (C := RX0) (T := TX0) (N := 17) hx hb hts hinX0 hown hK hB 0 rfl rfl 5 rfl hq2 rfl rfl dX0_addJourney_12 ?_
    refine lv_iload_n hx hb dX0_addJourney_15 rfl (lv_at hl 1 rfl) ?_
    obtain ⟨τ7, e9, hJ4⟩ := ob1_s hJ4
    obtain ⟨hi, e9⟩ := wra_s e9
    refine g_iast hx hb hK hB 3 0 rfl rfl hi rfl dX0_addJourney_16 (w2 := (cS cyI bd τ7)) (by rw [← e9]; rfl) (fun H locs hB => ?_)
    refine lv_aload_n hx hb dX0_addJourney_17 rfl (lv_at hl 0 rfl) ?_
    refine g_get (C := RX0) (T := TX0) (N := 17) hx hb hts hinX0 hown hK hB 0 rfl rfl 8 rfl hq3 rfl rfl dX0_addJourney_18 ?_
    refine lv_aload_n hx hb dX0_addJourney_21 rfl (lv_at hl 0 rfl) ?_
    refine g_get (C := RX0) (T := TX0) (N := 17) hx hb hts hinX0 hown hK hB 0 rfl rfl 5 rfl hq2 rfl rfl dX0_addJourney_22 ?_
    refine lv_aload_n hx hb dX0_addJourney_25 rfl (lv_at hl 0 rfl) ?_
    refine g_get (C := RX0) (T := TX0) (N := 17) hx hb hts hinX0 hown hK hB 0 rfl rfl 10 rfl hq4 rfl rfl dX0_addJourney_26 ?_
    obtain ⟨τ8, e9, hJ4⟩ := ob1_s hJ4
    obtain ⟨hi, e9⟩ := wra_s e9
    refine g_iast hx hb hK hB 5 0 rfl rfl hi rfl dX0_addJourney_29 (w2 := (cS cyI bd τ8)) (by rw [← e9]; rfl) (fun H locs hB => ?_)
    refine lv_aload_n hx hb dX0_addJourney_30 rfl (lv_at hl 0 rfl) ?_
    refine g_get (C := RX0) (T := TX0) (N := 17) hx hb hts hinX0 hown hK hB 0 rfl rfl 9 rfl hq5 rfl rfl dX0_addJourney_31 ?_
    refine lv_aload_n hx hb dX0_addJourney_34 rfl (lv_at hl 0 rfl) ?_
    refine g_get (C := RX0) (T := TX0) (N := 17) hx hb hts hinX0 hown hK hB 0 rfl rfl 5 rfl hq2 rfl rfl dX0_addJourney_35 ?_
    refine lv_aload_n hx hb dX0_addJourney_38 rfl (lv_at hl 0 rfl) ?_
    refine g_get (C := RX0) (T := TX0) (N := 17) hx hb hts hinX0 hown hK hB 0 rfl rfl 10 rfl hq4 rfl rfl dX0_addJourney_39 ?_
    obtain ⟨τ9, e9, hJ4⟩ := ob1_s hJ4
    obtain ⟨hi, e9⟩ := wra_s e9
    refine g_iast hx hb hK hB 6 0 rfl rfl hi rfl dX0_addJourney_42 (w2 := (cS cyI bd τ9)) (by rw [← e9]; rfl) (fun H locs hB => ?_)
    refine lv_aload_n hx hb dX0_addJourney_43 rfl (lv_at hl 0 rfl) ?_
    refine lv_dup hx hb dX0_addJourney_44 rfl ?_
    refine g_get (C := RX0) (T := TX0) (N := 17) hx hb hts hinX0 hown hK hB 0 rfl rfl 5 rfl hq2 rfl rfl dX0_addJourney_45 ?_
    refine lv_iconst (v := (1 : Int32)) hx hb dX0_addJourney_48 (by decide) ?_
    refine lv_iadd hx hb dX0_addJourney_49 ?_
    obtain ⟨τ10, e9, hJ4⟩ := ob1_s hJ4
    have e9 := inj1 e9
    refine g_put (C := RX0) (T := TX0) (N := 17) hx hb hts hinX0 tyX0 tyX0_ok nmX0 hown hK hB 0 rfl rfl 5 rfl hq2 rfl rfl rfl rfl rfl rfl dX0_addJourney_50 (w2 := (cS cyI bd τ10)) (by rw [← e9]; rfl) (fun H locs hB => ?_)
    have e0 := inj1 hJ4
    subst e0
    exact kJ5 _ _ _ hB (lv_sub hl [] rfl)

abbrev rmX0_addStep : Room := { frames := 1, cells := 0, slots := 0, locals := 20 }

set_option maxHeartbeats 4000000 in
set_option maxRecDepth 100000 in
theorem kX0_addStep (l : Launch) (dC : Nat → ClassId) (dI : Nat → Nat → Nat) (cyI : ClassId) (bd : Nat → Nat) (sz : Nat) {fu : Nat} {τ : MS} {i1 : Int32} {i2 : Int32} {i3 : Int32} {i4 : Int32} {i5 : Int32} {i6 : Int32} {τ_ : MS} (hf : mX0_addStep fu τ i1 i2 i3 i4 i5 i6 = some τ_) : Met l yX0_addStep wsX0_addStep rmX0_addStep (PcF (dC, dI) [(cyI, .int)] (cS cyI bd τ) sz [.ref (bd 0), .int i1, .int i2, .int i3, .int i4, .int i5, .int i6]) (QvF (dC, dI) [(cyI, .int)] (cS cyI bd τ) (cS cyI bd τ_) sz) 0 0 (va_A (cS cyI bd τ) sz) := by
  refine Met.ofW (cc := cX0_addStep) (maxL := 7) (ret := none) (by decide) rfl ?_
  intro p e s m args below meth c s₁ B hml hv
  obtain ⟨rfl, hsz, hP, hK, hD0⟩ := hv
  have hx := B.exec
  have hb := B.bytes
  have hr := B.returns
  have hts := atoms_spec (ws := wsX0_addStep) B.pre
  have hown : s.vm.findClass RX0 = some m.cls := findClass_of_methodNamed B.named
  have hlocks := B.notSynchronized
  subst hsz
  have hA : ∀ q : Nat, s.heap.size ≤ q → va_A (cS cyI bd τ) s.heap.size q := fun q h => Or.inr h
  have hB : Bd (dC, dI) [(cyI, .int)] (va_A (cS cyI bd τ) s.heap.size) s (cS cyI bd τ) s.heap [] := ⟨hP, hD0.self, va_S.rf⟩
  have hq1 : (Cond.fieldLink RX0 28 "UndoJourneys$Setup" "journeys" "I").before _ s = true := hts _ (List.mem_of_getElem? (i := 1) rfl)
  have hq2 : (Cond.fieldLink RX0 46 "UndoJourneys$Setup" "stageOf" "[I").before _ s = true := hts _ (List.mem_of_getElem? (i := 2) rfl)
  have hq3 : (Cond.fieldLink RX0 43 "UndoJourneys$Setup" "steps" "I").before _ s = true := hts _ (List.mem_of_getElem? (i := 3) rfl)
  have hq4 : (Cond.fieldLink RX0 49 "UndoJourneys$Setup" "stockOf" "[I").before _ s = true := hts _ (List.mem_of_getElem? (i := 4) rfl)
  have hq5 : (Cond.fieldLink RX0 52 "UndoJourneys$Setup" "amount" "[I").before _ s = true := hts _ (List.mem_of_getElem? (i := 5) rfl)
  have hq6 : (Cond.fieldLink RX0 55 "UndoJourneys$Setup" "duration" "[I").before _ s = true := hts _ (List.mem_of_getElem? (i := 6) rfl)
  have hq7 : (Cond.fieldLink RX0 58 "UndoJourneys$Setup" "failures" "[I").before _ s = true := hts _ (List.mem_of_getElem? (i := 7) rfl)
  have hq8 : (Cond.fieldLink RX0 61 "UndoJourneys$Setup" "repeats" "[I").before _ s = true := hts _ (List.mem_of_getElem? (i := 8) rfl)
  have hq9 : (Cond.fieldLink RX0 40 "UndoJourneys$Setup" "endStep" "[I").before _ s = true := hts _ (List.mem_of_getElem? (i := 9) rfl)
  have hq10 : (Cond.fieldLink RX0 34 "UndoJourneys$Setup" "stageCount" "[I").before _ s = true := hts _ (List.mem_of_getElem? (i := 10) rfl)
  have hinX0 : ∀ w ∈ wsX00, w ∈ wsX0_addStep := fun w h => List.mem_cons_of_mem _ (List.mem_append_right _ h)
  have hl := lv_entry [.ref (bd 0), .int i1, .int i2, .int i3, .int i4, .int i5, .int i6] (n := 7) (Nat.le_of_ble_eq_true rfl)
  rw [lg_entry_eq]
  generalize (lg_sl [.ref (bd 0), .int i1, .int i2, .int i3, .int i4, .int i5, .int i6] ++ List.replicate (7 - (lg_sl [.ref (bd 0), .int i1, .int i2, .int i3, .int i4, .int i5, .int i6]).length) Slot.unset).toArray = ls at hl ⊢
  have hl : lv_has ls 7 [(0, .ref (bd 0)), (1, .int i1), (2, .int i2), (3, .int i3), (4, .int i4), (5, .int i5), (6, .int i6)] := hl
  clear hP hD0
  suffices main : ∀ (H : Heap) (locs : List Loc), Bd (dC, dI) [(cyI, .int)] (va_A (cS cyI bd τ) s.heap.size) s (cS cyI bd τ) H locs → W p l e (headSpec wsX0_addStep rmX0_addStep).room s m ([.ref (bd 0), .int i1, .int i2, .int i3, .int i4, .int i5, .int i6] : List Value).toArray below meth c H locs 0 0 (MQ below (QvF (dC, dI) [(cyI, .int)] (cS cyI bd τ) (cS cyI bd τ_) s.heap.size) ([.ref (bd 0), .int i1, .int i2, .int i3, .int i4, .int i5, .int i6] : List Value).toArray s 0 0 (va_A (cS cyI bd τ) s.heap.size)) (F0 m 0 ls []) from main _ _ hB
  clear hB
  intro H locs hB
  unfold mX0_addStep at hf
  refine lv_aload_n hx hb dX0_addStep_0 rfl (lv_at hl 0 rfl) ?_
  obtain ⟨r1, hc, hf⟩ := ob1_s hf
  refine g_callVz (As := []) (rest := []) ⟨hx, hb, hml, hown, hts⟩ (kX0_hasRoomForStep l dC dI cyI bd H.size hc) (cwV 0 hts gX0_addStep_X0_hasRoomForStep rfl rfl rfl (by decide +kernel) ⟨Nat.le_of_ble_eq_true rfl, Nat.le_of_ble_eq_true rfl⟩) hK hB hA (g_recv (ci := 0) hK hB 0 rfl rfl rfl) rfl hl.1 rfl (Nat.le_of_ble_eq_true rfl) dX0_addStep_1 ⟨Nat.zero_le _, Nat.zero_le _⟩ (fun z2 H locs hB => ?_)
  obtain ⟨τ3, hJ4, hf⟩ := ob1_s hf
  have kJ5 : ∀ (H : Heap) (locs : List Loc) (ls : Array Slot), Bd (dC, dI) [(cyI, .int)] (va_A (cS cyI bd τ) s.heap.size) s (cS cyI bd τ3) H locs → lv_has ls 7 [] → W p l e (headSpec wsX0_addStep rmX0_addStep).room s m ([.ref (bd 0), .int i1, .int i2, .int i3, .int i4, .int i5, .int i6] : List Value).toArray below meth c H locs 0 0 (MQ below (QvF (dC, dI) [(cyI, .int)] (cS cyI bd τ) (cS cyI bd τ_) s.heap.size) ([.ref (bd 0), .int i1, .int i2, .int i3, .int i4, .int i5, .int i6] : List Value).toArray s 0 0 (va_A (cS cyI bd τ) s.heap.size)) (F0 m 116 ls []) := by
    intro H locs ls hB hl
    have e0 := inj1 hf
    subst e0
    exact g_vret hx hb hr hlocks hK hB dX0_addStep_116
  obtain ⟨t6, hD7, hJ4⟩ := ob1_s hJ4
  have kTt6 : t6 = true → ∀ (H : Heap) (locs : List Loc), Bd (dC, dI) [(cyI, .int)] (va_A (cS cyI bd τ) s.heap.size) s (cS cyI bd τ) H locs → W p l e (headSpec wsX0_addStep rmX0_addStep).room s m ([.ref (bd 0), .int i1, .int i2, .int i3, .int i4, .int i5, .int i6] : List Value).toArray below meth c H locs 0 0 (MQ below (QvF (dC, dI) [(cyI, .int)] (cS cyI bd τ) (cS cyI bd τ_) s.heap.size) ([.ref (bd 0), .int i1, .int i2, .int i3, .int i4, .int i5, .int i6] : List Value).toArray s 0 0 (va_A (cS cyI bd τ) s.heap.size)) (F0 m 14 ls []) := by
    intro ht H locs hB
    have hJ4 := cnd_t ht hJ4
    refine lv_aload_n hx hb dX0_addStep_14 rfl (lv_at hl 0 rfl) ?_
    refine g_get (C := RX0) (T := TX0) (N := 17) hx hb hts hinX0 hown hK hB 0 rfl rfl 11 rfl hq2 rfl rfl dX0_addStep_15 ?_
    refine lv_aload_n hx hb dX0_addStep_18 rfl (lv_at hl 0 rfl) ?_
    refine g_get (C := RX0) (T := TX0) (N := 17) hx hb hts hinX0 hown hK hB 0 rfl rfl 10 rfl hq3 rfl rfl dX0_addStep_19 ?_
    refine lv_iload_n hx hb dX0_addStep_22 rfl (lv_at hl 1 rfl) ?_
    obtain ⟨τ10, e9, hJ4⟩ := ob1_s hJ4
    obtain ⟨hi, e9⟩ := wra_s e9
    refine g_iast hx hb hK hB 7 0 rfl rfl hi rfl dX0_addStep_23 (w2 := (cS cyI bd τ10)) (by rw [← e9]; rfl) (fun H locs hB => ?_)
    refine lv_aload_n hx hb dX0_addStep_24 rfl (lv_at hl 0 rfl) ?_
    refine g_get (C := RX0) (T := TX0) (N := 17) hx hb hts hinX0 hown hK hB 0 rfl rfl 12 rfl hq4 rfl rfl dX0_addStep_25 ?_
    refine lv_aload_n hx hb dX0_addStep_28 rfl (lv_at hl 0 rfl) ?_
    refine g_get (C := RX0) (T := TX0) (N := 17) hx hb hts hinX0 hown hK hB 0 rfl rfl 10 rfl hq3 rfl rfl dX0_addStep_29 ?_
    refine lv_iload_n hx hb dX0_addStep_32 rfl (lv_at hl 2 rfl) ?_
    obtain ⟨τ11, e9, hJ4⟩ := ob1_s hJ4
    obtain ⟨hi, e9⟩ := wra_s e9
    refine g_iast hx hb hK hB 8 0 rfl rfl hi rfl dX0_addStep_33 (w2 := (cS cyI bd τ11)) (by rw [← e9]; rfl) (fun H locs hB => ?_)
    refine lv_aload_n hx hb dX0_addStep_34 rfl (lv_at hl 0 rfl) ?_
    refine g_get (C := RX0) (T := TX0) (N := 17) hx hb hts hinX0 hown hK hB 0 rfl rfl 13 rfl hq5 rfl rfl dX0_addStep_35 ?_
    refine lv_aload_n hx hb dX0_addStep_38 rfl (lv_at hl 0 rfl) ?_
    refine g_get (C := RX0) (T := TX0) (N := 17) hx hb hts hinX0 hown hK hB 0 rfl rfl 10 rfl hq3 rfl rfl dX0_addStep_39 ?_
    refine lv_iload_n hx hb dX0_addStep_42 rfl (lv_at hl 3 rfl) ?_
    obtain ⟨τ12, e9, hJ4⟩ := ob1_s hJ4
    obtain ⟨hi, e9⟩ := wra_s e9
    refine g_iast hx hb hK hB 9 0 rfl rfl hi rfl dX0_addStep_43 (w2 := (cS cyI bd τ12)) (by rw [← e9]; rfl) (fun H locs hB => ?_)
    refine lv_aload_n hx hb dX0_addStep_44 rfl (lv_at hl 0 rfl) ?_
    refine g_get (C := RX0) (T := TX0) (N := 17) hx hb hts hinX0 hown hK hB 0 rfl rfl 14 rfl hq6 rfl rfl dX0_addStep_45 ?_
    refine lv_aload_n hx hb dX0_addStep_48 rfl (lv_at hl 0 rfl) ?_
    refine g_get (C := RX0) (T := TX0) (N := 17) hx hb hts hinX0 hown hK hB 0 rfl rfl 10 rfl hq3 rfl rfl dX0_addStep_49 ?_
    refine lv_iload hx hb dX0_addStep_52 (lv_at hl 4 rfl) ?_
    obtain ⟨τ13, e9, hJ4⟩ := ob1_s hJ4
    obtain ⟨hi, e9⟩ := wra_s e9
    refine g_iast hx hb hK hB 10 0 rfl rfl hi rfl dX0_addStep_54 (w2 := (cS cyI bd τ13)) (by rw [← e9]; rfl) (fun H locs hB => ?_)
    refine lv_aload_n hx hb dX0_addStep_55 rfl (lv_at hl 0 rfl) ?_
    refine g_get (C := RX0) (T := TX0) (N := 17) hx hb hts hinX0 hown hK hB 0 rfl rfl 15 rfl hq7 rfl rfl dX0_addStep_56 ?_
    refine lv_aload_n hx hb dX0_addStep_59 rfl (lv_at hl 0 rfl) ?_
    refine g_get (C := RX0) (T := TX0) (N := 17) hx hb hts hinX0 hown hK hB 0 rfl rfl 10 rfl hq3 rfl rfl dX0_addStep_60 ?_
    refine lv_iload hx hb dX0_addStep_63 (lv_at hl 5 rfl) ?_
    obtain ⟨τ14, e9, hJ4⟩ := ob1_s hJ4
    obtain ⟨hi, e9⟩ := wra_s e9
    refine g_iast hx hb hK hB 11 0 rfl rfl hi rfl dX0_addStep_65 (w2 := (cS cyI bd τ14)) (by rw [← e9]; rfl) (fun H locs hB => ?_)
    refine lv_aload_n hx hb dX0_addStep_66 rfl (lv_at hl 0 rfl) ?_
    refine g_get (C := RX0) (T := TX0) (N := 17) hx hb hts hinX0 hown hK hB 0 rfl rfl 16 rfl hq8 rfl rfl dX0_addStep_67 ?_
    refine lv_aload_n hx hb dX0_addStep_70 rfl (lv_at hl 0 rfl) ?_
    refine g_get (C := RX0) (T := TX0) (N := 17) hx hb hts hinX0 hown hK hB 0 rfl rfl 10 rfl hq3 rfl rfl dX0_addStep_71 ?_
    refine lv_iload hx hb dX0_addStep_74 (lv_at hl 6 rfl) ?_
    obtain ⟨τ15, e9, hJ4⟩ := ob1_s hJ4
    obtain ⟨hi, e9⟩ := wra_s e9
    refine g_iast hx hb hK hB 12 0 rfl rfl hi rfl dX0_addStep_76 (w2 := (cS cyI bd τ15)) (by rw [← e9]; rfl) (fun H locs hB => ?_)
    refine lv_aload_n hx hb dX0_addStep_77 rfl (lv_at hl 0 rfl) ?_
    refine lv_dup hx hb dX0_addStep_78 rfl ?_
    refine g_get (C := RX0) (T := TX0) (N := 17) hx hb hts hinX0 hown hK hB 0 rfl rfl 10 rfl hq3 rfl rfl dX0_addStep_79 ?_
    refine lv_iconst (v := (1 : Int32)) hx hb dX0_addStep_82 (by decide) ?_
    refine lv_iadd hx hb dX0_addStep_83 ?_
    obtain ⟨τ16, e9, hJ4⟩ := ob1_s hJ4
    have e9 := inj1 e9
    refine g_put (C := RX0) (T := TX0) (N := 17) hx hb hts hinX0 tyX0 tyX0_ok nmX0 hown hK hB 0 rfl rfl 10 rfl hq3 rfl rfl rfl rfl rfl rfl dX0_addStep_84 (w2 := (cS cyI bd τ16)) (by rw [← e9]; rfl) (fun H locs hB => ?_)
    refine lv_aload_n hx hb dX0_addStep_87 rfl (lv_at hl 0 rfl) ?_
    refine g_get (C := RX0) (T := TX0) (N := 17) hx hb hts hinX0 hown hK hB 0 rfl rfl 9 rfl hq9 rfl rfl dX0_addStep_88 ?_
    refine lv_aload_n hx hb dX0_addStep_91 rfl (lv_at hl 0 rfl) ?_
    refine g_get (C := RX0) (T := TX0) (N := 17) hx hb hts hinX0 hown hK hB 0 rfl rfl 5 rfl hq1 rfl rfl dX0_addStep_92 ?_
    refine lv_iconst (v := (1 : Int32)) hx hb dX0_addStep_95 (by decide) ?_
    refine lv_isub hx hb dX0_addStep_96 ?_
    refine lv_aload_n hx hb dX0_addStep_97 rfl (lv_at hl 0 rfl) ?_
    refine g_get (C := RX0) (T := TX0) (N := 17) hx hb hts hinX0 hown hK hB 0 rfl rfl 10 rfl hq3 rfl rfl dX0_addStep_98 ?_
    obtain ⟨τ17, e9, hJ4⟩ := ob1_s hJ4
    obtain ⟨hi, e9⟩ := wra_s e9
    refine g_iast hx hb hK hB 6 0 rfl rfl hi rfl dX0_addStep_101 (w2 := (cS cyI bd τ17)) (by rw [← e9]; rfl) (fun H locs hB => ?_)
    refine lv_aload_n hx hb dX0_addStep_102 rfl (lv_at hl 0 rfl) ?_
    refine g_get (C := RX0) (T := TX0) (N := 17) hx hb hts hinX0 hown hK hB 0 rfl rfl 7 rfl hq10 rfl rfl dX0_addStep_103 ?_
    refine lv_aload_n hx hb dX0_addStep_106 rfl (lv_at hl 0 rfl) ?_
    refine g_get (C := RX0) (T := TX0) (N := 17) hx hb hts hinX0 hown hK hB 0 rfl rfl 5 rfl hq1 rfl rfl dX0_addStep_107 ?_
    refine lv_iconst (v := (1 : Int32)) hx hb dX0_addStep_110 (by decide) ?_
    refine lv_isub hx hb dX0_addStep_111 ?_
    refine lv_iload_n hx hb dX0_addStep_112 rfl (lv_at hl 1 rfl) ?_
    refine lv_iconst (v := (1 : Int32)) hx hb dX0_addStep_113 (by decide) ?_
    refine lv_iadd hx hb dX0_addStep_114 ?_
    obtain ⟨τ18, e9, hJ4⟩ := ob1_s hJ4
    obtain ⟨hi, e9⟩ := wra_s e9
    refine g_iast hx hb hK hB 4 0 rfl rfl hi rfl dX0_addStep_115 (w2 := (cS cyI bd τ18)) (by rw [← e9]; rfl) (fun H locs hB => ?_)
    have e0 := inj1 hJ4
    subst e0
    exact kJ5 _ _ _ hB (lv_sub hl [] rfl)
  have kFt6 : t6 = false → ∀ (H : Heap) (locs : List Loc), Bd (dC, dI) [(cyI, .int)] (va_A (cS cyI bd τ) s.heap.size) s (cS cyI bd τ) H locs → W p l e (headSpec wsX0_addStep rmX0_addStep).room s m ([.ref (bd 0), .int i1, .int i2, .int i3, .int i4, .int i5, .int i6] : List Value).toArray below meth c H locs 0 0 (MQ below (QvF (dC, dI) [(cyI, .int)] (cS cyI bd τ) (cS cyI bd τ_) s.heap.size) ([.ref (bd 0), .int i1, .int i2, .int i3, .int i4, .int i5, .int i6] : List Value).toArray s 0 0 (va_A (cS cyI bd τ) s.heap.size)) (F0 m 116 ls []) := by
    intro ht H locs hB
    have hJ4 := cnd_f ht hJ4
    have e0 := inj1 hJ4
    subst e0
    exact kJ5 _ _ _ hB (lv_sub hl [] rfl)
  refine lv_if_eq (tgt := 116) hx hb dX0_addStep_4 (by decide) (fun c8 => ?_) (fun c8 => ?_)
  · have hD7 := ite_t c8 hD7
    have e0 := inj1 hD7
    exact kFt6 e0.symm _ _ hB
  · have hD7 := ite_f c8 hD7
    refine lv_aload_n hx hb dX0_addStep_7 rfl (lv_at hl 0 rfl) ?_
    refine g_get (C := RX0) (T := TX0) (N := 17) hx hb hts hinX0 hown hK hB 0 rfl rfl 5 rfl hq1 rfl rfl dX0_addStep_8 ?_
    refine lv_if_le (tgt := 116) hx hb dX0_addStep_11 (by decide) (fun c9 => ?_) (fun c9 => ?_)
    · have hD7 := ite_t c9 hD7
      have e0 := inj1 hD7
      exact kFt6 e0.symm _ _ hB
    · have hD7 := ite_f c9 hD7
      have e0 := inj1 hD7
      exact kTt6 e0.symm _ _ hB

