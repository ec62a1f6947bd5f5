abbrev rmX4_thrown : Room := { frames := 0, cells := 0, slots := 0, locals := 0 }

set_option maxHeartbeats 4000000 in
set_option maxRecDepth 100000 in
theorem kX4_thrown (l : Launch) (dC : Nat → ClassId) (dI : Nat → Nat → Nat) (cyI cyO : ClassId) (ad : Nat → Nat) (sz : Nat) {fu : Nat} {μ : MS} {r : Int32} (hf : mX4_thrown fu μ = some r) : Met l yX4_thrown wsX4_thrown rmX4_thrown (PcF (dC, dI) [(cyI, .int), (cyO, .array .int)] (cM cyI cyO ad μ) sz [.ref (ad 0)]) (QiF (dC, dI) [(cyI, .int), (cyO, .array .int)] (cM cyI cyO ad μ) (cM cyI cyO ad μ) sz r) 0 0 (va_A (cM cyI cyO ad μ) sz) := by
  refine Met.ofW (cc := cX4_thrown) (maxL := 1) (ret := (some .int)) (by decide) rfl ?_
  intro p e s m args below meth c s₁ B hml hv
  obtain ⟨rfl, hsz, hP, hK, hD0⟩ := hv
  have hx := B.exec
  have hb := B.bytes
  have hr := B.returns
  have hts := atoms_spec (ws := wsX4_thrown) B.pre
  have hown : s.vm.findClass RX4 = some m.cls := findClass_of_methodNamed B.named
  have hlocks := B.notSynchronized
  subst hsz
  have hA : ∀ q : Nat, s.heap.size ≤ q → va_A (cM cyI cyO ad μ) s.heap.size q := fun q h => Or.inr h
  have hB : Bd (dC, dI) [(cyI, .int), (cyO, .array .int)] (va_A (cM cyI cyO ad μ) s.heap.size) s (cM cyI cyO ad μ) s.heap [] := ⟨hP, hD0.self, va_S.rf⟩
  have hq1 : (Cond.fieldLink RX4 35 "UndoJourneysModel" "thrown" "I").before _ s = true := hts _ (List.mem_of_getElem? (i := 1) rfl)
  have hinX4 : ∀ w ∈ wsX40, w ∈ wsX4_thrown := fun w h => List.mem_cons_of_mem _ (List.mem_append_right _ h)
  have hl := lv_entry [.ref (ad 0)] (n := 1) (Nat.le_of_ble_eq_true rfl)
  rw [lg_entry_eq]
  generalize (lg_sl [.ref (ad 0)] ++ List.replicate (1 - (lg_sl [.ref (ad 0)]).length) Slot.unset).toArray = ls at hl ⊢
  have hl : lv_has ls 1 [(0, .ref (ad 0))] := hl
  clear hP hD0
  suffices main : ∀ (H : Heap) (locs : List Loc), Bd (dC, dI) [(cyI, .int), (cyO, .array .int)] (va_A (cM cyI cyO ad μ) s.heap.size) s (cM cyI cyO ad μ) H locs → W p l e (headSpec wsX4_thrown rmX4_thrown).room s m ([.ref (ad 0)] : List Value).toArray below meth c H locs 0 0 (MQ below (QiF (dC, dI) [(cyI, .int), (cyO, .array .int)] (cM cyI cyO ad μ) (cM cyI cyO ad μ) s.heap.size r) ([.ref (ad 0)] : List Value).toArray s 0 0 (va_A (cM cyI cyO ad μ) s.heap.size)) (F0 m 0 ls []) from main _ _ hB
  clear hB
  intro H locs hB
  unfold mX4_thrown at hf
  refine lv_aload_n hx hb dX4_thrown_0 rfl (lv_at hl 0 rfl) ?_
  refine g_get (C := RX4) (T := TX4) (N := 15) hx hb hts hinX4 hown hK hB 0 rfl rfl 0 rfl hq1 rfl rfl dX4_thrown_1 ?_
  have e0 := inj1 hf
  subst e0
  exact g_iret hx hb hr hlocks hK hB dX4_thrown_4

abbrev rmX4_fails : Room := { frames := 0, cells := 0, slots := 0, locals := 0 }

set_option maxHeartbeats 4000000 in
set_option maxRecDepth 100000 in
theorem kX4_fails (l : Launch) (dC : Nat → ClassId) (dI : Nat → Nat → Nat) (cyI cyO : ClassId) (ad : Nat → Nat) (sz : Nat) {fu : Nat} {μ : MS} {i1 : Int32} {i2 : Int32} {r : Int32} {μ_ : MS} (hf : mX4_fails fu μ i1 i2 = some (r, μ_)) : Met l yX4_fails wsX4_fails rmX4_fails (PcF (dC, dI) [(cyI, .int), (cyO, .array .int)] (cM cyI cyO ad μ) sz [.ref (ad 0), .int i1, .int i2]) (QzF (dC, dI) [(cyI, .int), (cyO, .array .int)] (cM cyI cyO ad μ) (cM cyI cyO ad μ_) sz r) 0 0 (va_A (cM cyI cyO ad μ) sz) := by
  refine Met.ofW (cc := cX4_fails) (maxL := 3) (ret := (some .boolean)) (by decide) rfl ?_
  intro p e s m args below meth c s₁ B hml hv
  obtain ⟨rfl, hsz, hP, hK, hD0⟩ := hv
  have hx := B.exec
  have hb := B.bytes
  have hr := B.returns
  have hts := atoms_spec (ws := wsX4_fails) B.pre
  have hown : s.vm.findClass RX4 = some m.cls := findClass_of_methodNamed B.named
  have hlocks := B.notSynchronized
  subst hsz
  have hA : ∀ q : Nat, s.heap.size ≤ q → va_A (cM cyI cyO ad μ) s.heap.size q := fun q h => Or.inr h
  have hB : Bd (dC, dI) [(cyI, .int), (cyO, .array .int)] (va_A (cM cyI cyO ad μ) s.heap.size) s (cM cyI cyO ad μ) s.heap [] := ⟨hP, hD0.self, va_S.rf⟩
  have hq1 : (Cond.fieldLink RX4 35 "UndoJourneysModel" "thrown" "I").before _ s = true := hts _ (List.mem_of_getElem? (i := 1) rfl)
  have hinX4 : ∀ w ∈ wsX40, w ∈ wsX4_fails := fun w h => List.mem_cons_of_mem _ (List.mem_append_right _ h)
  have hl := lv_entry [.ref (ad 0), .int i1, .int i2] (n := 3) (Nat.le_of_ble_eq_true rfl)
  rw [lg_entry_eq]
  generalize (lg_sl [.ref (ad 0), .int i1, .int i2] ++ List.replicate (3 - (lg_sl [.ref (ad 0), .int i1, .int i2]).length) Slot.unset).toArray = ls at hl ⊢
  have hl : lv_has ls 3 [(0, .ref (ad 0)), (1, .int i1), (2, .int i2)] := hl
  clear hP hD0
  suffices main : ∀ (H : Heap) (locs : List Loc), Bd (dC, dI) [(cyI, .int), (cyO, .array .int)] (va_A (cM cyI cyO ad μ) s.heap.size) s (cM cyI cyO ad μ) H locs → W p l e (headSpec wsX4_fails rmX4_fails).room s m ([.ref (ad 0), .int i1, .int i2] : List Value).toArray below meth c H locs 0 0 (MQ below (QzF (dC, dI) [(cyI, .int), (cyO, .array .int)] (cM cyI cyO ad μ) (cM cyI cyO ad μ_) s.heap.size r) ([.ref (ad 0), .int i1, .int i2] : List Value).toArray s 0 0 (va_A (cM cyI cyO ad μ) s.heap.size)) (F0 m 0 ls []) from main _ _ hB
  clear hB
  intro H locs hB
  unfold mX4_fails at hf
  refine lv_iload_n hx hb dX4_fails_0 rfl (lv_at hl 1 rfl) ?_
  obtain ⟨μ1, hJ2, hf⟩ := ob1_s hf
  have kJ3 : ∀ (H : Heap) (locs : List Loc) (ls : Array Slot), Bd (dC, dI) [(cyI, .int), (cyO, .array .int)] (va_A (cM cyI cyO ad μ) s.heap.size) s (cM cyI cyO ad μ1) H locs → lv_has ls 3 [(0, .ref (ad 0))] → W p l e (headSpec wsX4_fails rmX4_fails).room s m ([.ref (ad 0), .int i1, .int i2] : List Value).toArray below meth c H locs 0 0 (MQ below (QzF (dC, dI) [(cyI, .int), (cyO, .array .int)] (cM cyI cyO ad μ) (cM cyI cyO ad μ_) s.heap.size r) ([.ref (ad 0), .int i1, .int i2] : List Value).toArray s 0 0 (va_A (cM cyI cyO ad μ) s.heap.size)) (F0 m 16 ls []) := by
    intro H locs ls hB hl
    refine lv_aload_n hx hb dX4_fails_16 rfl (lv_at hl 0 rfl) ?_
    refine g_get (C := RX4) (T := TX4) (N := 15) hx hb hts hinX4 hown hK hB 0 rfl rfl 0 rfl hq1 rfl rfl dX4_fails_17 ?_
    obtain ⟨v9, hJ11, hf⟩ := ob1_s hf
    have kJ12 : (v9 = 0 ∨ v9 = 1) → ∀ (H : Heap) (locs : List Loc) (ls : Array Slot), Bd (dC, dI) [(cyI, .int), (cyO, .array .int)] (va_A (cM cyI cyO ad μ) s.heap.size) s (cM cyI cyO ad μ1) H locs → lv_has ls 3 [] → W p l e (headSpec wsX4_fails rmX4_fails).room s m ([.ref (ad 0), .int i1, .int i2] : List Value).toArray below meth c H locs 0 0 (MQ below (QzF (dC, dI) [(cyI, .int), (cyO, .array .int)] (cM cyI cyO ad μ) (cM cyI cyO ad μ_) s.heap.size r) ([.ref (ad 0), .int i1, .int i2] : List Value).toArray s 0 0 (va_A (cM cyI cyO ad μ) s.heap.size)) (F0 m 28 ls [.int v9]) := by
      intro z10 H locs ls hB hl
      obtain ⟨e0, e1⟩ := inj2 hf
      subst e0
      subst e1
      exact g_zret hx hb hr hlocks hK hB z10 dX4_fails_28
    refine lv_if_eq (tgt := 27) hx hb dX4_fails_20 (by decide) (fun c13 => ?_) (fun c13 => ?_)
    · have hJ11 := ite_t c13 hJ11
      refine lv_iconst (v := (0 : Int32)) hx hb dX4_fails_27 (by decide) ?_
      have e0 := inj1 hJ11
      subst e0
      exact kJ12 (Or.inl rfl) _ _ _ hB (lv_sub hl [] rfl)
    · have hJ11 := ite_f c13 hJ11
      refine lv_iconst (v := (1 : Int32)) hx hb dX4_fails_23 (by decide) ?_
      refine lv_goto (tgt := 28) hx hb dX4_fails_24 (by decide) ?_
      have e0 := inj1 hJ11
      subst e0
      exact kJ12 (Or.inr rfl) _ _ _ hB (lv_sub hl [] rfl)
  obtain ⟨t4, hD5, hJ2⟩ := ob1_s hJ2
  have kTt4 : t4 = true → ∀ (H : Heap) (locs : List Loc), Bd (dC, dI) [(cyI, .int), (cyO, .array .int)] (va_A (cM cyI cyO ad μ) s.heap.size) s (cM cyI cyO ad μ) H locs → W p l e (headSpec wsX4_fails rmX4_fails).room s m ([.ref (ad 0), .int i1, .int i2] : List Value).toArray below meth c H locs 0 0 (MQ below (QzF (dC, dI) [(cyI, .int), (cyO, .array .int)] (cM cyI cyO ad μ) (cM cyI cyO ad μ_) s.heap.size r) ([.ref (ad 0), .int i1, .int i2] : List Value).toArray s 0 0 (va_A (cM cyI cyO ad μ) s.heap.size)) (F0 m 11 ls []) := by
    intro ht H locs hB
    have hJ2 := cnd_t ht hJ2
    refine lv_aload_n hx hb dX4_fails_11 rfl (lv_at hl 0 rfl) ?_
    refine lv_iload_n hx hb dX4_fails_12 rfl (lv_at hl 2 rfl) ?_
    obtain ⟨μ8, e9, hJ2⟩ := ob1_s hJ2
    have e9 := inj1 e9
    refine g_put (C := RX4) (T := TX4) (N := 15) hx hb hts hinX4 tyX4 tyX4_ok nmX4 hown hK hB 0 rfl rfl 0 rfl hq1 rfl rfl rfl rfl rfl rfl dX4_fails_13 (w2 := (cM cyI cyO ad μ8)) (by rw [← e9]; rfl) (fun H locs hB => ?_)
    have e0 := inj1 hJ2
    subst e0
    exact kJ3 _ _ _ hB (lv_sub hl [0] rfl)
  have kFt4 : t4 = false → ∀ (H : Heap) (locs : List Loc), Bd (dC, dI) [(cyI, .int), (cyO, .array .int)] (va_A (cM cyI cyO ad μ) s.heap.size) s (cM cyI cyO ad μ) H locs → W p l e (headSpec wsX4_fails rmX4_fails).room s m ([.ref (ad 0), .int i1, .int i2] : List Value).toArray below meth c H locs 0 0 (MQ below (QzF (dC, dI) [(cyI, .int), (cyO, .array .int)] (cM cyI cyO ad μ) (cM cyI cyO ad μ_) s.heap.size r) ([.ref (ad 0), .int i1, .int i2] : List Value).toArray s 0 0 (va_A (cM cyI cyO ad μ) s.heap.size)) (F0 m 16 ls []) := by
    intro ht H locs hB
    have hJ2 := cnd_f ht hJ2
    have e0 := inj1 hJ2
    subst e0
    exact kJ3 _ _ _ hB (lv_sub hl [0] rfl)
  refine lv_if_eq (tgt := 16) hx hb dX4_fails_1 (by decide) (fun c6 => ?_) (fun c6 => ?_)
  · have hD5 := ite_t c6 hD5
    have e0 := inj1 hD5
    exact kFt4 e0.symm _ _ hB
  · have hD5 := ite_f c6 hD5
    refine lv_aload_n hx hb dX4_fails_4 rfl (lv_at hl 0 rfl) ?_
    refine g_get (C := RX4) (T := TX4) (N := 15) hx hb hts hinX4 hown hK hB 0 rfl rfl 0 rfl hq1 rfl rfl dX4_fails_5 ?_
    refine lv_if_ne (tgt := 16) hx hb dX4_fails_8 (by decide) (fun c7 => ?_) (fun c7 => ?_)
    · have hD5 := ite_f c7 hD5
      have e0 := inj1 hD5
      exact kFt4 e0.symm _ _ hB
    · have hD5 := ite_t c7 hD5
      have e0 := inj1 hD5
      exact kTt4 e0.symm _ _ hB

abbrev rmX4_append : Room := { frames := 0, cells := 0, slots := 0, locals := 0 }

set_option maxHeartbeats 4000000 in
set_option maxRecDepth 100000 in
theorem kX4_append (l : Launch) (dC : Nat → ClassId) (dI : Nat → Nat → Nat) (cyI cyO : ClassId) (ad : Nat → Nat) (sz : Nat) {fu : Nat} {μ : MS} {i1 : Int32} {i2 : Int32} {i3 : Int32} {i4 : Int32} {i5 : Int32} {r : Int32} {μ_ : MS} (hf : mX4_append fu μ i1 i2 i3 i4 i5 = some (r, μ_)) : Met l yX4_append wsX4_append rmX4_append (PcF (dC, dI) [(cyI, .int), (cyO, .array .int)] (cM cyI cyO ad μ) sz [.ref (ad 0), .int i1, .int i2, .int i3, .int i4, .int i5]) (QiF (dC, dI) [(cyI, .int), (cyO, .array .int)] (cM cyI cyO ad μ) (cM cyI cyO ad μ_) sz r) 0 0 (va_A (cM cyI cyO ad μ) sz) := by
  refine Met.ofW (cc := cX4_append) (maxL := 8) (ret := (some .int)) (by decide) rfl ?_
  intro p e s m args below meth c s₁ B hml hv
  obtain ⟨rfl, hsz, hP, hK, hD0⟩ := hv
  have hx := B.exec
  have hb := B.bytes
  have hr := B.returns
  have hts := atoms_spec (ws := wsX4_append) B.pre
  have hown : s.vm.findClass RX4 = some m.cls := findClass_of_methodNamed B.named
  have hlocks := B.notSynchronized
  subst hsz
  have hA : ∀ q : Nat, s.heap.size ≤ q → va_A (cM cyI cyO ad μ) s.heap.size q := fun q h => Or.inr h
  have hB : Bd (dC, dI) [(cyI, .int), (cyO, .array .int)] (va_A (cM cyI cyO ad μ) s.heap.size) s (cM cyI cyO ad μ) s.heap [] := ⟨hP, hD0.self, va_S.rf⟩
  have hq1 : (Cond.fieldLink RX4 35 "UndoJourneysModel" "thrown" "I").before _ s = true := hts _ (List.mem_of_getElem? (i := 1) rfl)
  have hq2 : (Cond.fieldLink RX4 38 "UndoJourneysModel" "bufferLength" "I").before _ s = true := hts _ (List.mem_of_getElem? (i := 2) rfl)
  have hq3 : (Cond.fieldLink RX4 9 "UndoJourneysModel" "buffer" "[I").before _ s = true := hts _ (List.mem_of_getElem? (i := 3) rfl)
  have hinX4 : ∀ w ∈ wsX40, w ∈ wsX4_append := fun w h => List.mem_cons_of_mem _ (List.mem_append_right _ h)
  have hl := lv_entry [.ref (ad 0), .int i1, .int i2, .int i3, .int i4, .int i5] (n := 8) (Nat.le_of_ble_eq_true rfl)
  rw [lg_entry_eq]
  generalize (lg_sl [.ref (ad 0), .int i1, .int i2, .int i3, .int i4, .int i5] ++ List.replicate (8 - (lg_sl [.ref (ad 0), .int i1, .int i2, .int i3, .int i4, .int i5]).length) Slot.unset).toArray = ls at hl ⊢
  have hl : lv_has ls 8 [(0, .ref (ad 0)), (1, .int i1), (2, .int i2), (3, .int i3), (4, .int i4), (5, .int i5)] := hl
  clear hP hD0
  suffices main : ∀ (H : Heap) (locs : List Loc), Bd (dC, dI) [(cyI, .int), (cyO, .array .int)] (va_A (cM cyI cyO ad μ) s.heap.size) s (cM cyI cyO ad μ) H locs → W p l e (headSpec wsX4_append rmX4_append).room s m ([.ref (ad 0), .int i1, .int i2, .int i3, .int i4, .int i5] : List Value).toArray below meth c H locs 0 0 (MQ below (QiF (dC, dI) [(cyI, .int), (cyO, .array .int)] (cM cyI cyO ad μ) (cM cyI cyO ad μ_) s.heap.size r) ([.ref (ad 0), .int i1, .int i2, .int i3, .int i4, .int i5] : List Value).toArray s 0 0 (va_A (cM cyI cyO ad μ) s.heap.size)) (F0 m 0 ls []) from main _ _ hB
  clear hB
  intro H locs hB
  unfold mX4_append at hf
  refine lv_aload_n hx hb dX4_append_0 rfl (lv_at hl 0 rfl) ?_
  refine lv_iconst (v := (0 : Int32)) hx hb dX4_append_1 (by decide) ?_
  obtain ⟨μ1, e9, hf⟩ := ob1_s hf
  have e9 := inj1 e9
  refine g_put (C := RX4) (T := TX4) (N := 15) hx hb hts hinX4 tyX4 tyX4_ok nmX4 hown hK hB 0 rfl rfl 0 rfl hq1 rfl rfl rfl rfl rfl rfl dX4_append_2 (w2 := (cM cyI cyO ad μ1)) (by rw [← e9]; rfl) (fun H locs hB => ?_)
  refine lv_aload_n hx hb dX4_append_5 rfl (lv_at hl 0 rfl) ?_
  refine g_get (C := RX4) (T := TX4) (N := 15) hx hb hts hinX4 hown hK hB 0 rfl rfl 2 rfl hq2 rfl rfl dX4_append_6 ?_
  refine lv_bipush (v := (20 : Int32)) hx hb dX4_append_9 (by decide) ?_
  refine lv_iadd hx hb dX4_append_11 ?_
  refine lv_sipush (v := (700 : Int32)) hx hb dX4_append_12 (by decide) ?_
  refine lv_icmp_le (tgt := 20) hx hb dX4_append_15 (by decide) (fun c2 => ?_) (fun c2 => ?_)
  · have hf := ite_t c2 hf
    refine lv_iconst (v := (0 : Int32)) hx hb dX4_append_20 (by decide) ?_
    refine lv_istore (lv' := [(6, .int (0 : Int32)), (0, .ref (ad 0)), (1, .int i1), (2, .int i2), (3, .int i3), (4, .int i4), (5, .int i5)]) hx hb dX4_append_21 hl (by decide) rfl (fun ls hl => ?_)
    obtain ⟨μ20, hL23, hf⟩ := ob1_s hf
    have kE21 : ∀ (H : Heap) (locs : List Loc) (ls : Array Slot), Bd (dC, dI) [(cyI, .int), (cyO, .array .int)] (va_A (cM cyI cyO ad μ) s.heap.size) s (cM cyI cyO ad μ20) H locs → lv_has ls 8 [(0, .ref (ad 0))] → W p l e (headSpec wsX4_append rmX4_append).room s m ([.ref (ad 0), .int i1, .int i2, .int i3, .int i4, .int i5] : List Value).toArray below meth c H locs 0 0 (MQ below (QiF (dC, dI) [(cyI, .int), (cyO, .array .int)] (cM cyI cyO ad μ) (cM cyI cyO ad μ_) s.heap.size r) ([.ref (ad 0), .int i1, .int i2, .int i3, .int i4, .int i5] : List Value).toArray s 0 0 (va_A (cM cyI cyO ad μ) s.heap.size)) (F0 m 120 ls []) := by
      intro H locs ls hB hl
      refine lv_aload_n hx hb dX4_append_120 rfl (lv_at hl 0 rfl) ?_
      refine g_get (C := RX4) (T := TX4) (N := 15) hx hb hts hinX4 hown hK hB 0 rfl rfl 2 rfl hq2 rfl rfl dX4_append_121 ?_
      obtain ⟨e0, e1⟩ := inj2 hf
      subst e0
      subst e1
      exact g_iret hx hb hr hlocks hK hB dX4_append_124
    have key22 : ∀ (n9 : Nat) (v26 : Int32) (μ27 : MS) (H : Heap) (locs : List Loc) (ls : Array Slot), loopM (fun st => mX4_append_L23 fu i1 i2 i3 i4 i5 st.1 st.2) n9 (v26, μ27) = some μ20 → Bd (dC, dI) [(cyI, .int), (cyO, .array .int)] (va_A (cM cyI cyO ad μ) s.heap.size) s (cM cyI cyO ad μ27) H locs → lv_has ls 8 [(6, .int v26), (0, .ref (ad 0)), (1, .int i1), (2, .int i2), (3, .int i3), (4, .int i4), (5, .int i5)] → W p l e (headSpec wsX4_append rmX4_append).room s m ([.ref (ad 0), .int i1, .int i2, .int i3, .int i4, .int i5] : List Value).toArray below meth c H locs 0 0 (MQ below (QiF (dC, dI) [(cyI, .int), (cyO, .array .int)] (cM cyI cyO ad μ) (cM cyI cyO ad μ_) s.heap.size r) ([.ref (ad 0), .int i1, .int i2, .int i3, .int i4, .int i5] : List Value).toArray s 0 0 (va_A (cM cyI cyO ad μ) s.heap.size)) (F0 m 23 ls []) := by
      intro n9
      induction n9 with
      | zero => intro v26 μ27 H locs ls hL23; exact (loopM_z hL23).elim
      | succ n9 ih9 =>
        intro v26 μ27 H locs ls hL23 hB hl
        obtain ⟨o28, hg24, hL23⟩ := loopM_s hL23
        have hg24 : mX4_append_L23 fu i1 i2 i3 i4 i5 v26 μ27 = some o28 := hg24
        unfold mX4_append_L23 at hg24
        refine lv_iload hx hb dX4_append_23 (lv_at hl 0 rfl) ?_
        refine lv_bipush (v := (20 : Int32)) hx hb dX4_append_25 (by decide) ?_
        refine lv_icmp_ge (tgt := 120) hx hb dX4_append_27 (by decide) (fun c29 => ?_) (fun c29 => ?_)
        · have hg24 := ite_t c29 hg24
          have hL23 := el1_l (inj1 hg24) hL23
          have e0 := inj1 hL23
          subst e0
          exact kE21 _ _ _ hB (lv_sub hl [1] rfl)
        · have hg24 := ite_f c29 hg24
          refine lv_iload hx hb dX4_append_30 (lv_at hl 0 rfl) ?_
          refine lv_iconst (v := (4 : Int32)) hx hb dX4_append_32 (by decide) ?_
          obtain ⟨v30, hJ31, hg24⟩ := ob1_s hg24
          have kJ32 : ∀ (H : Heap) (locs : List Loc) (ls : Array Slot), Bd (dC, dI) [(cyI, .int), (cyO, .array .int)] (va_A (cM cyI cyO ad μ) s.heap.size) s (cM cyI cyO ad μ27) H locs → lv_has ls 8 [(6, .int v26), (0, .ref (ad 0)), (1, .int i1), (2, .int i2), (3, .int i3), (4, .int i4), (5, .int i5)] → W p l e (headSpec wsX4_append rmX4_append).room s m ([.ref (ad 0), .int i1, .int i2, .int i3, .int i4, .int i5] : List Value).toArray below meth c H locs 0 0 (MQ below (QiF (dC, dI) [(cyI, .int), (cyO, .array .int)] (cM cyI cyO ad μ) (cM cyI cyO ad μ_) s.heap.size r) ([.ref (ad 0), .int i1, .int i2, .int i3, .int i4, .int i5] : List Value).toArray s 0 0 (va_A (cM cyI cyO ad μ) s.heap.size)) (F0 m 76 ls [.int v30]) := by
            intro H locs ls hB hl
            refine lv_istore (lv' := [(7, .int v30), (6, .int v26), (0, .ref (ad 0)), (1, .int i1), (2, .int i2), (3, .int i3), (4, .int i4), (5, .int i5)]) hx hb dX4_append_76 hl (by decide) rfl (fun ls hl => ?_)
            refine lv_aload_n hx hb dX4_append_78 rfl (lv_at hl 2 rfl) ?_
            refine g_get (C := RX4) (T := TX4) (N := 15) hx hb hts hinX4 hown hK hB 0 rfl rfl 1 rfl hq3 rfl rfl dX4_append_79 ?_
            refine lv_aload_n hx hb dX4_append_82 rfl (lv_at hl 2 rfl) ?_
            refine g_get (C := RX4) (T := TX4) (N := 15) hx hb hts hinX4 hown hK hB 0 rfl rfl 2 rfl hq2 rfl rfl dX4_append_83 ?_
            refine lv_iload hx hb dX4_append_86 (lv_at hl 0 rfl) ?_
            refine lv_bipush (v := (24 : Int32)) hx hb dX4_append_88 (by decide) ?_
            refine lv_bipush (v := (8 : Int32)) hx hb dX4_append_90 (by decide) ?_
            refine lv_iload hx hb dX4_append_92 (lv_at hl 1 rfl) ?_
            refine lv_iconst (v := (4 : Int32)) hx hb dX4_append_94 (by decide) ?_
            refine lv_irem hx hb dX4_append_95 (by decide) ?_
            refine lv_imul hx hb dX4_append_96 ?_
            refine lv_isub hx hb dX4_append_97 ?_
            refine lv_ishr hx hb dX4_append_98 ?_
            refine lv_sipush (v := (255 : Int32)) hx hb dX4_append_99 (by decide) ?_
            refine lv_iand hx hb dX4_append_102 ?_
            obtain ⟨μ37, e9, hg24⟩ := ob1_s hg24
            obtain ⟨hi, e9⟩ := wra_s e9
            refine g_iast hx hb hK hB 1 0 rfl rfl hi rfl dX4_append_103 (w2 := (cM cyI cyO ad μ37)) (by rw [← e9]; rfl) (fun H locs hB => ?_)
            refine lv_aload_n hx hb dX4_append_104 rfl (lv_at hl 2 rfl) ?_
            refine lv_dup hx hb dX4_append_105 rfl ?_
            refine g_get (C := RX4) (T := TX4) (N := 15) hx hb hts hinX4 hown hK hB 0 rfl rfl 2 rfl hq2 rfl rfl dX4_append_106 ?_
            refine lv_iconst (v := (1 : Int32)) hx hb dX4_append_109 (by decide) ?_
            refine lv_iadd hx hb dX4_append_110 ?_
            obtain ⟨μ38, e9, hg24⟩ := ob1_s hg24
            have e9 := inj1 e9
            refine g_put (C := RX4) (T := TX4) (N := 15) hx hb hts hinX4 tyX4 tyX4_ok nmX4 hown hK hB 0 rfl rfl 2 rfl hq2 rfl rfl rfl rfl rfl rfl dX4_append_111 (w2 := (cM cyI cyO ad μ38)) (by rw [← e9]; rfl) (fun H locs hB => ?_)
            refine lv_iinc (v := (v26 + (1 : Int32))) (lv' := [(6, .int (v26 + (1 : Int32))), (7, .int v30), (0, .ref (ad 0)), (1, .int i1), (2, .int i2), (3, .int i3), (4, .int i4), (5, .int i5)]) hx hb dX4_append_114 hl (k := 1) rfl rfl (by decide) rfl (fun ls hl => ?_)
            refine lv_goto (tgt := 23) hx hb dX4_append_117 (by decide) ?_
            have hL23 := el1_r (inj1 hg24) hL23
            exact ih9 _ _ _ _ _ hL23 hB (lv_sub hl [0, 2, 3, 4, 5, 6, 7] rfl)
          refine lv_icmp_ge (tgt := 40) hx hb dX4_append_33 (by decide) (fun c33 => ?_) (fun c33 => ?_)
          · have hJ31 := ite_t c33 hJ31
            refine lv_iload hx hb dX4_append_40 (lv_at hl 0 rfl) ?_
            refine lv_bipush (v := (8 : Int32)) hx hb dX4_append_42 (by decide) ?_
            refine lv_icmp_ge (tgt := 51) hx hb dX4_append_44 (by decide) (fun c34 => ?_) (fun c34 => ?_)
            · have hJ31 := ite_t c34 hJ31
              refine lv_iload hx hb dX4_append_51 (lv_at hl 0 rfl) ?_
              refine lv_bipush (v := (12 : Int32)) hx hb dX4_append_53 (by decide) ?_
              refine lv_icmp_ge (tgt := 62) hx hb dX4_append_55 (by decide) (fun c35 => ?_) (fun c35 => ?_)
              · have hJ31 := ite_t c35 hJ31
                refine lv_iload hx hb dX4_append_62 (lv_at hl 0 rfl) ?_
                refine lv_bipush (v := (16 : Int32)) hx hb dX4_append_64 (by decide) ?_
                refine lv_icmp_ge (tgt := 74) hx hb dX4_append_66 (by decide) (fun c36 => ?_) (fun c36 => ?_)
                · have hJ31 := ite_t c36 hJ31
                  refine lv_iload hx hb dX4_append_74 (lv_at hl 6 rfl) ?_
                  have e0 := inj1 hJ31
                  subst e0
                  exact kJ32 _ _ _ hB (lv_sub hl [0, 1, 2, 3, 4, 5, 6] rfl)
                · have hJ31 := ite_f c36 hJ31
                  refine lv_iload hx hb dX4_append_69 (lv_at hl 5 rfl) ?_
                  refine lv_goto (tgt := 76) hx hb dX4_append_71 (by decide) ?_
                  have e0 := inj1 hJ31
                  subst e0
                  exact kJ32 _ _ _ hB (lv_sub hl [0, 1, 2, 3, 4, 5, 6] rfl)
              · have hJ31 := ite_f c35 hJ31
                refine lv_iload_n hx hb dX4_append_58 rfl (lv_at hl 4 rfl) ?_
                refine lv_goto (tgt := 76) hx hb dX4_append_59 (by decide) ?_
                have e0 := inj1 hJ31
                subst e0
                exact kJ32 _ _ _ hB (lv_sub hl [0, 1, 2, 3, 4, 5, 6] rfl)
            · have hJ31 := ite_f c34 hJ31
              refine lv_iload_n hx hb dX4_append_47 rfl (lv_at hl 3 rfl) ?_
              refine lv_goto (tgt := 76) hx hb dX4_append_48 (by decide) ?_
              have e0 := inj1 hJ31
              subst e0
              exact kJ32 _ _ _ hB (lv_sub hl [0, 1, 2, 3, 4, 5, 6] rfl)
          · have hJ31 := ite_f c33 hJ31
            refine lv_iload_n hx hb dX4_append_36 rfl (lv_at hl 2 rfl) ?_
            refine lv_goto (tgt := 76) hx hb dX4_append_37 (by decide) ?_
            have e0 := inj1 hJ31
            subst e0
            exact kJ32 _ _ _ hB (lv_sub hl [0, 1, 2, 3, 4, 5, 6] rfl)
    exact key22 fu _ _ _ _ _ hL23 hB (lv_sub hl [0, 1, 2, 3, 4, 5, 6] rfl)
  · have hf := ite_f c2 hf
    refine lv_iconst (v := (-1 : Int32)) hx hb dX4_append_18 (by decide) ?_
    obtain ⟨e0, e1⟩ := inj2 hf
    subst e0
    subst e1
    exact g_iret hx hb hr hlocks hK hB dX4_append_19

abbrev rmX4_byteAt : Room := { frames := 0, cells := 0, slots := 0, locals := 0 }

set_option maxHeartbeats 4000000 in
set_option maxRecDepth 100000 in
theorem kX4_byteAt (l : Launch) (dC : Nat → ClassId) (dI : Nat → Nat → Nat) (cyI cyO : ClassId) (ad : Nat → Nat) (sz : Nat) {fu : Nat} {μ : MS} {i1 : Int32} {r : Int32} (hf : mX4_byteAt fu μ i1 = some r) : Met l yX4_byteAt wsX4_byteAt rmX4_byteAt (PcF (dC, dI) [(cyI, .int), (cyO, .array .int)] (cM cyI cyO ad μ) sz [.ref (ad 0), .int i1]) (QiF (dC, dI) [(cyI, .int), (cyO, .array .int)] (cM cyI cyO ad μ) (cM cyI cyO ad μ) sz r) 0 0 (va_A (cM cyI cyO ad μ) sz) := by
  refine Met.ofW (cc := cX4_byteAt) (maxL := 2) (ret := (some .int)) (by decide) rfl ?_
  intro p e s m args below meth c s₁ B hml hv
  obtain ⟨rfl, hsz, hP, hK, hD0⟩ := hv
  have hx := B.exec
  have hb := B.bytes
  have hr := B.returns
  have hts := atoms_spec (ws := wsX4_byteAt) B.pre
  have hown : s.vm.findClass RX4 = some m.cls := findClass_of_methodNamed B.named
  have hlocks := B.notSynchronized
  subst hsz
  have hA : ∀ q : Nat, s.heap.size ≤ q → va_A (cM cyI cyO ad μ) s.heap.size q := fun q h => Or.inr h
  have hB : Bd (dC, dI) [(cyI, .int), (cyO, .array .int)] (va_A (cM cyI cyO ad μ) s.heap.size) s (cM cyI cyO ad μ) s.heap [] := ⟨hP, hD0.self, va_S.rf⟩
  have hq1 : (Cond.fieldLink RX4 41 "UndoJourneysModel" "textLength" "I").before _ s = true := hts _ (List.mem_of_getElem? (i := 1) rfl)
  have hq2 : (Cond.fieldLink RX4 9 "UndoJourneysModel" "buffer" "[I").before _ s = true := hts _ (List.mem_of_getElem? (i := 2) rfl)
  have hinX4 : ∀ w ∈ wsX40, w ∈ wsX4_byteAt := fun w h => List.mem_cons_of_mem _ (List.mem_append_right _ h)
  have hl := lv_entry [.ref (ad 0), .int i1] (n := 2) (Nat.le_of_ble_eq_true rfl)
  rw [lg_entry_eq]
  generalize (lg_sl [.ref (ad 0), .int i1] ++ List.replicate (2 - (lg_sl [.ref (ad 0), .int i1]).length) Slot.unset).toArray = ls at hl ⊢
  have hl : lv_has ls 2 [(0, .ref (ad 0)), (1, .int i1)] := hl
  clear hP hD0
  suffices main : ∀ (H : Heap) (locs : List Loc), Bd (dC, dI) [(cyI, .int), (cyO, .array .int)] (va_A (cM cyI cyO ad μ) s.heap.size) s (cM cyI cyO ad μ) H locs → W p l e (headSpec wsX4_byteAt rmX4_byteAt).room s m ([.ref (ad 0), .int i1] : List Value).toArray below meth c H locs 0 0 (MQ below (QiF (dC, dI) [(cyI, .int), (cyO, .array .int)] (cM cyI cyO ad μ) (cM cyI cyO ad μ) s.heap.size r) ([.ref (ad 0), .int i1] : List Value).toArray s 0 0 (va_A (cM cyI cyO ad μ) s.heap.size)) (F0 m 0 ls []) from main _ _ hB
  clear hB
  intro H locs hB
  unfold mX4_byteAt at hf
  refine lv_iload_n hx hb dX4_byteAt_0 rfl (lv_at hl 1 rfl) ?_
  refine lv_aload_n hx hb dX4_byteAt_1 rfl (lv_at hl 0 rfl) ?_
  refine g_get (C := RX4) (T := TX4) (N := 15) hx hb hts hinX4 hown hK hB 0 rfl rfl 3 rfl hq1 rfl rfl dX4_byteAt_2 ?_
  obtain ⟨v1, hJ2, hf⟩ := ob1_s hf
  have kJ3 : ∀ (H : Heap) (locs : List Loc) (ls : Array Slot), Bd (dC, dI) [(cyI, .int), (cyO, .array .int)] (va_A (cM cyI cyO ad μ) s.heap.size) s (cM cyI cyO ad μ) H locs → lv_has ls 2 [] → W p l e (headSpec wsX4_byteAt rmX4_byteAt).room s m ([.ref (ad 0), .int i1] : List Value).toArray below meth c H locs 0 0 (MQ below (QiF (dC, dI) [(cyI, .int), (cyO, .array .int)] (cM cyI cyO ad μ) (cM cyI cyO ad μ) s.heap.size r) ([.ref (ad 0), .int i1] : List Value).toArray s 0 0 (va_A (cM cyI cyO ad μ) s.heap.size)) (F0 m 18 ls [.int v1]) := by
    intro H locs ls hB hl
    have e0 := inj1 hf
    subst e0
    exact g_iret hx hb hr hlocks hK hB dX4_byteAt_18
  refine lv_icmp_ge (tgt := 17) hx hb dX4_byteAt_5 (by decide) (fun c4 => ?_) (fun c4 => ?_)
  · have hJ2 := ite_t c4 hJ2
    refine lv_iconst (v := (-1 : Int32)) hx hb dX4_byteAt_17 (by decide) ?_
    have e0 := inj1 hJ2
    subst e0
    exact kJ3 _ _ _ hB (lv_sub hl [] rfl)
  · have hJ2 := ite_f c4 hJ2
    refine lv_aload_n hx hb dX4_byteAt_8 rfl (lv_at hl 0 rfl) ?_
    refine g_get (C := RX4) (T := TX4) (N := 15) hx hb hts hinX4 hown hK hB 0 rfl rfl 1 rfl hq2 rfl rfl dX4_byteAt_9 ?_
    refine lv_iload_n hx hb dX4_byteAt_12 rfl (lv_at hl 1 rfl) ?_
    obtain ⟨x5, e9, hJ2⟩ := ob1_s hJ2
    refine g_iald hx hb hK hB 1 0 rfl rfl (rd_s e9) dX4_byteAt_13 ?_
    refine lv_goto (tgt := 18) hx hb dX4_byteAt_14 (by decide) ?_
    have e0 := inj1 hJ2
    subst e0
    exact kJ3 _ _ _ hB (lv_sub hl [] rfl)

abbrev rmX4_next : Room := { frames := 1, cells := 0, slots := 0, locals := 21 }

set_option maxHeartbeats 4000000 in
set_option maxRecDepth 100000 in
theorem kX4_next (l : Launch) (dC : Nat → ClassId) (dI : Nat → Nat → Nat) (cyI cyO : ClassId) (ad : Nat → Nat) (sz : Nat) {fu : Nat} {μ : MS} {r : Int32} {μ_ : MS} (hf : mX4_next fu μ = some (r, μ_)) : Met l yX4_next wsX4_next rmX4_next (PcF (dC, dI) [(cyI, .int), (cyO, .array .int)] (cM cyI cyO ad μ) sz [.ref (ad 0)]) (QiF (dC, dI) [(cyI, .int), (cyO, .array .int)] (cM cyI cyO ad μ) (cM cyI cyO ad μ_) sz r) 0 0 (va_A (cM cyI cyO ad μ) sz) := by
  refine Met.ofW (cc := cX4_next) (maxL := 1) (ret := (some .int)) (by decide) rfl ?_
  intro p e s m args below meth c s₁ B hml hv
  obtain ⟨rfl, hsz, hP, hK, hD0⟩ := hv
  have hx := B.exec
  have hb := B.bytes
  have hr := B.returns
  have hts := atoms_spec (ws := wsX4_next) B.pre
  have hown : s.vm.findClass RX4 = some m.cls := findClass_of_methodNamed B.named
  have hlocks := B.notSynchronized
  subst hsz
  have hA : ∀ q : Nat, s.heap.size ≤ q → va_A (cM cyI cyO ad μ) s.heap.size q := fun q h => Or.inr h
  have hB : Bd (dC, dI) [(cyI, .int), (cyO, .array .int)] (va_A (cM cyI cyO ad μ) s.heap.size) s (cM cyI cyO ad μ) s.heap [] := ⟨hP, hD0.self, va_S.rf⟩
  have hq1 : (Cond.fieldLink RX4 44 "UndoJourneysModel" "position" "I").before _ s = true := hts _ (List.mem_of_getElem? (i := 1) rfl)
  have hinX4 : ∀ w ∈ wsX40, w ∈ wsX4_next := fun w h => List.mem_cons_of_mem _ (List.mem_append_right _ h)
  have hl := lv_entry [.ref (ad 0)] (n := 1) (Nat.le_of_ble_eq_true rfl)
  rw [lg_entry_eq]
  generalize (lg_sl [.ref (ad 0)] ++ List.replicate (1 - (lg_sl [.ref (ad 0)]).length) Slot.unset).toArray = ls at hl ⊢
  have hl : lv_has ls 1 [(0, .ref (ad 0))] := hl
  clear hP hD0
  suffices main : ∀ (H : Heap) (locs : List Loc), Bd (dC, dI) [(cyI, .int), (cyO, .array .int)] (va_A (cM cyI cyO ad μ) s.heap.size) s (cM cyI cyO ad μ) H locs → W p l e (headSpec wsX4_next rmX4_next).room s m ([.ref (ad 0)] : List Value).toArray below meth c H locs 0 0 (MQ below (QiF (dC, dI) [(cyI, .int), (cyO, .array .int)] (cM cyI cyO ad μ) (cM cyI cyO ad μ_) s.heap.size r) ([.ref (ad 0)] : List Value).toArray s 0 0 (va_A (cM cyI cyO ad μ) s.heap.size)) (F0 m 0 ls []) from main _ _ hB
  clear hB
  intro H locs hB
  unfold mX4_next at hf
  obtain ⟨μ5, hL8, hf⟩ := ob1_s hf
  have kE6 : ∀ (H : Heap) (locs : List Loc) (ls : Array Slot), Bd (dC, dI) [(cyI, .int), (cyO, .array .int)] (va_A (cM cyI cyO ad μ) s.heap.size) s (cM cyI cyO ad μ5) H locs → lv_has ls 1 [(0, .ref (ad 0))] → W p l e (headSpec wsX4_next rmX4_next).room s m ([.ref (ad 0)] : List Value).toArray below meth c H locs 0 0 (MQ below (QiF (dC, dI) [(cyI, .int), (cyO, .array .int)] (cM cyI cyO ad μ) (cM cyI cyO ad μ_) s.heap.size r) ([.ref (ad 0)] : List Value).toArray s 0 0 (va_A (cM cyI cyO ad μ) s.heap.size)) (F0 m 26 ls []) := by
    intro H locs ls hB hl
    refine lv_aload_n hx hb dX4_next_26 rfl (lv_at hl 0 rfl) ?_
    refine lv_aload_n hx hb dX4_next_27 rfl (lv_at hl 0 rfl) ?_
    refine g_get (C := RX4) (T := TX4) (N := 15) hx hb hts hinX4 hown hK hB 0 rfl rfl 4 rfl hq1 rfl rfl dX4_next_28 ?_
    obtain ⟨r10, hc, hf⟩ := ob1_s hf
    refine g_callVi (As := [.int (μ5 4 0)]) (rest := []) ⟨hx, hb, hml, hown, hts⟩ (kX4_byteAt l dC dI cyI cyO ad H.size hc) (cwV 1 hts gX4_next_X4_byteAt rfl rfl rfl (by decide +kernel) ⟨Nat.le_of_ble_eq_true rfl, Nat.le_of_ble_eq_true rfl⟩) hK hB hA (g_recv (ci := 4) hK hB 0 rfl rfl rfl) rfl hl.1 rfl (Nat.le_of_ble_eq_true rfl) dX4_next_31 ⟨Nat.zero_le _, Nat.zero_le _⟩ (fun H locs hB => ?_)
    obtain ⟨e0, e1⟩ := inj2 hf
    subst e0
    subst e1
    exact g_iret hx hb hr hlocks hK hB dX4_next_34
  have key7 : ∀ (n9 : Nat) (μ12 : MS) (H : Heap) (locs : List Loc) (ls : Array Slot), loopM (fun st => mX4_next_L0 fu st) n9 μ12 = some μ5 → Bd (dC, dI) [(cyI, .int), (cyO, .array .int)] (va_A (cM cyI cyO ad μ) s.heap.size) s (cM cyI cyO ad μ12) H locs → lv_has ls 1 [(0, .ref (ad 0))] → W p l e (headSpec wsX4_next rmX4_next).room s m ([.ref (ad 0)] : List Value).toArray below meth c H locs 0 0 (MQ below (QiF (dC, dI) [(cyI, .int), (cyO, .array .int)] (cM cyI cyO ad μ) (cM cyI cyO ad μ_) s.heap.size r) ([.ref (ad 0)] : List Value).toArray s 0 0 (va_A (cM cyI cyO ad μ) s.heap.size)) (F0 m 0 ls []) := by
    intro n9
    induction n9 with
    | zero => intro μ12 H locs ls hL8; exact (loopM_z hL8).elim
    | succ n9 ih9 =>
      intro μ12 H locs ls hL8 hB hl
      obtain ⟨o13, hg9, hL8⟩ := loopM_s hL8
      have hg9 : mX4_next_L0 fu μ12 = some o13 := hg9
      unfold mX4_next_L0 at hg9
      refine lv_aload_n hx hb dX4_next_0 rfl (lv_at hl 0 rfl) ?_
      refine lv_aload_n hx hb dX4_next_1 rfl (lv_at hl 0 rfl) ?_
      refine g_get (C := RX4) (T := TX4) (N := 15) hx hb hts hinX4 hown hK hB 0 rfl rfl 4 rfl hq1 rfl rfl dX4_next_2 ?_
      obtain ⟨r14, hc, hg9⟩ := ob1_s hg9
      refine g_callVi (As := [.int (μ12 4 0)]) (rest := []) ⟨hx, hb, hml, hown, hts⟩ (kX4_byteAt l dC dI cyI cyO ad H.size hc) (cwV 1 hts gX4_next_X4_byteAt rfl rfl rfl (by decide +kernel) ⟨Nat.le_of_ble_eq_true rfl, Nat.le_of_ble_eq_true rfl⟩) hK hB hA (g_recv (ci := 4) hK hB 0 rfl rfl rfl) rfl hl.1 rfl (Nat.le_of_ble_eq_true rfl) dX4_next_5 ⟨Nat.zero_le _, Nat.zero_le _⟩ (fun H locs hB => ?_)
      refine lv_bipush (v := (32 : Int32)) hx hb dX4_next_8 (by decide) ?_
      refine lv_icmp_ne (tgt := 26) hx hb dX4_next_10 (by decide) (fun c15 => ?_) (fun c15 => ?_)
      · have hg9 := ite_f c15 hg9
        have hL8 := el1_l (inj1 hg9) hL8
        have e0 := inj1 hL8
        subst e0
        exact kE6 _ _ _ hB (lv_sub hl [0] rfl)
      · have hg9 := ite_t c15 hg9
        refine lv_aload_n hx hb dX4_next_13 rfl (lv_at hl 0 rfl) ?_
        refine lv_dup hx hb dX4_next_14 rfl ?_
        refine g_get (C := RX4) (T := TX4) (N := 15) hx hb hts hinX4 hown hK hB 0 rfl rfl 4 rfl hq1 rfl rfl dX4_next_15 ?_
        refine lv_iconst (v := (1 : Int32)) hx hb dX4_next_18 (by decide) ?_
        refine lv_iadd hx hb dX4_next_19 ?_
        obtain ⟨μ16, e9, hg9⟩ := ob1_s hg9
        have e9 := inj1 e9
        refine g_put (C := RX4) (T := TX4) (N := 15) hx hb hts hinX4 tyX4 tyX4_ok nmX4 hown hK hB 0 rfl rfl 4 rfl hq1 rfl rfl rfl rfl rfl rfl dX4_next_20 (w2 := (cM cyI cyO ad μ16)) (by rw [← e9]; rfl) (fun H locs hB => ?_)
        refine lv_goto (tgt := 0) hx hb dX4_next_23 (by decide) ?_
        have hL8 := el1_r (inj1 hg9) hL8
        exact ih9 _ _ _ _ hL8 hB (lv_sub hl [0] rfl)
  exact key7 fu _ _ _ _ hL8 hB (lv_sub hl [0] rfl)

abbrev rmX4_isGood : Room := { frames := 0, cells := 0, slots := 0, locals := 0 }

set_option maxHeartbeats 4000000 in
set_option maxRecDepth 100000 in
theorem kX4_isGood (l : Launch) (dC : Nat → ClassId) (dI : Nat → Nat → Nat) (cyI cyO : ClassId) (ad : Nat → Nat) (sz : Nat) {fu : Nat} {μ : MS} {r : Int32} (hf : mX4_isGood fu μ = some r) : Met l yX4_isGood wsX4_isGood rmX4_isGood (PcF (dC, dI) [(cyI, .int), (cyO, .array .int)] (cM cyI cyO ad μ) sz [.ref (ad 0)]) (QzF (dC, dI) [(cyI, .int), (cyO, .array .int)] (cM cyI cyO ad μ) (cM cyI cyO ad μ) sz r) 0 0 (va_A (cM cyI cyO ad μ) sz) := by
  refine Met.ofW (cc := cX4_isGood) (maxL := 1) (ret := (some .boolean)) (by decide) rfl ?_
  intro p e s m args below meth c s₁ B hml hv
  obtain ⟨rfl, hsz, hP, hK, hD0⟩ := hv
  have hx := B.exec
  have hb := B.bytes
  have hr := B.returns
  have hts := atoms_spec (ws := wsX4_isGood) B.pre
  have hown : s.vm.findClass RX4 = some m.cls := findClass_of_methodNamed B.named
  have hlocks := B.notSynchronized
  subst hsz
  have hA : ∀ q : Nat, s.heap.size ≤ q → va_A (cM cyI cyO ad μ) s.heap.size q := fun q h => Or.inr h
  have hB : Bd (dC, dI) [(cyI, .int), (cyO, .array .int)] (va_A (cM cyI cyO ad μ) s.heap.size) s (cM cyI cyO ad μ) s.heap [] := ⟨hP, hD0.self, va_S.rf⟩
  have hq1 : (Cond.fieldLink RX4 51 "UndoJourneysModel" "error" "I").before _ s = true := hts _ (List.mem_of_getElem? (i := 1) rfl)
  have hinX4 : ∀ w ∈ wsX40, w ∈ wsX4_isGood := fun w h => List.mem_cons_of_mem _ (List.mem_append_right _ h)
  have hl := lv_entry [.ref (ad 0)] (n := 1) (Nat.le_of_ble_eq_true rfl)
  rw [lg_entry_eq]
  generalize (lg_sl [.ref (ad 0)] ++ List.replicate (1 - (lg_sl [.ref (ad 0)]).length) Slot.unset).toArray = ls at hl ⊢
  have hl : lv_has ls 1 [(0, .ref (ad 0))] := hl
  clear hP hD0
  suffices main : ∀ (H : Heap) (locs : List Loc), Bd (dC, dI) [(cyI, .int), (cyO, .array .int)] (va_A (cM cyI cyO ad μ) s.heap.size) s (cM cyI cyO ad μ) H locs → W p l e (headSpec wsX4_isGood rmX4_isGood).room s m ([.ref (ad 0)] : List Value).toArray below meth c H locs 0 0 (MQ below (QzF (dC, dI) [(cyI, .int), (cyO, .array .int)] (cM cyI cyO ad μ) (cM cyI cyO ad μ) s.heap.size r) ([.ref (ad 0)] : List Value).toArray s 0 0 (va_A (cM cyI cyO ad μ) s.heap.size)) (F0 m 0 ls []) from main _ _ hB
  clear hB
  intro H locs hB
  unfold mX4_isGood at hf
  refine lv_aload_n hx hb dX4_isGood_0 rfl (lv_at hl 0 rfl) ?_
  refine g_get (C := RX4) (T := TX4) (N := 15) hx hb hts hinX4 hown hK hB 0 rfl rfl 5 rfl hq1 rfl rfl dX4_isGood_1 ?_
  obtain ⟨v1, hJ3, hf⟩ := ob1_s hf
  have kJ4 : (v1 = 0 ∨ v1 = 1) → ∀ (H : Heap) (locs : List Loc) (ls : Array Slot), Bd (dC, dI) [(cyI, .int), (cyO, .array .int)] (va_A (cM cyI cyO ad μ) s.heap.size) s (cM cyI cyO ad μ) H locs → lv_has ls 1 [] → W p l e (headSpec wsX4_isGood rmX4_isGood).room s m ([.ref (ad 0)] : List Value).toArray below meth c H locs 0 0 (MQ below (QzF (dC, dI) [(cyI, .int), (cyO, .array .int)] (cM cyI cyO ad μ) (cM cyI cyO ad μ) s.heap.size r) ([.ref (ad 0)] : List Value).toArray s 0 0 (va_A (cM cyI cyO ad μ) s.heap.size)) (F0 m 12 ls [.int v1]) := by
    intro z2 H locs ls hB hl
    have e0 := inj1 hf
    subst e0
    exact g_zret hx hb hr hlocks hK hB z2 dX4_isGood_12
  refine lv_if_ne (tgt := 11) hx hb dX4_isGood_4 (by decide) (fun c5 => ?_) (fun c5 => ?_)
  · have hJ3 := ite_f c5 hJ3
    refine lv_iconst (v := (0 : Int32)) hx hb dX4_isGood_11 (by decide) ?_
    have e0 := inj1 hJ3
    subst e0
    exact kJ4 (Or.inl rfl) _ _ _ hB (lv_sub hl [] rfl)
  · have hJ3 := ite_t c5 hJ3
    refine lv_iconst (v := (1 : Int32)) hx hb dX4_isGood_7 (by decide) ?_
    refine lv_goto (tgt := 12) hx hb dX4_isGood_8 (by decide) ?_
    have e0 := inj1 hJ3
    subst e0
    exact kJ4 (Or.inr rfl) _ _ _ hB (lv_sub hl [] rfl)

abbrev rmX4_report : Room := { frames := 0, cells := 0, slots := 0, locals := 0 }

set_option maxHeartbeats 4000000 in
set_option maxRecDepth 100000 in
theorem kX4_report (l : Launch) (dC : Nat → ClassId) (dI : Nat → Nat → Nat) (cyI cyO : ClassId) (ad : Nat → Nat) (sz : Nat) {fu : Nat} {μ : MS} {i1 : Int32} {i2 : Int32} {μ_ : MS} (hf : mX4_report fu μ i1 i2 = some μ_) : Met l yX4_report wsX4_report rmX4_report (PcF (dC, dI) [(cyI, .int), (cyO, .array .int)] (cM cyI cyO ad μ) sz [.ref (ad 0), .int i1, .int i2]) (QvF (dC, dI) [(cyI, .int), (cyO, .array .int)] (cM cyI cyO ad μ) (cM cyI cyO ad μ_) sz) 0 0 (va_A (cM cyI cyO ad μ) sz) := by
  refine Met.ofW (cc := cX4_report) (maxL := 3) (ret := none) (by decide) rfl ?_
  intro p e s m args below meth c s₁ B hml hv
  obtain ⟨rfl, hsz, hP, hK, hD0⟩ := hv
  have hx := B.exec
  have hb := B.bytes
  have hr := B.returns
  have hts := atoms_spec (ws := wsX4_report) B.pre
  have hown : s.vm.findClass RX4 = some m.cls := findClass_of_methodNamed B.named
  have hlocks := B.notSynchronized
  subst hsz
  have hA : ∀ q : Nat, s.heap.size ≤ q → va_A (cM cyI cyO ad μ) s.heap.size q := fun q h => Or.inr h
  have hB : Bd (dC, dI) [(cyI, .int), (cyO, .array .int)] (va_A (cM cyI cyO ad μ) s.heap.size) s (cM cyI cyO ad μ) s.heap [] := ⟨hP, hD0.self, va_S.rf⟩
  have hq1 : (Cond.fieldLink RX4 51 "UndoJourneysModel" "error" "I").before _ s = true := hts _ (List.mem_of_getElem? (i := 1) rfl)
  have hq2 : (Cond.fieldLink RX4 54 "UndoJourneysModel" "errorAt" "I").before _ s = true := hts _ (List.mem_of_getElem? (i := 2) rfl)
  have hinX4 : ∀ w ∈ wsX40, w ∈ wsX4_report := fun w h => List.mem_cons_of_mem _ (List.mem_append_right _ h)
  have hl := lv_entry [.ref (ad 0), .int i1, .int i2] (n := 3) (Nat.le_of_ble_eq_true rfl)
  rw [lg_entry_eq]
  generalize (lg_sl [.ref (ad 0), .int i1, .int i2] ++ List.replicate (3 - (lg_sl [.ref (ad 0), .int i1, .int i2]).length) Slot.unset).toArray = ls at hl ⊢
  have hl : lv_has ls 3 [(0, .ref (ad 0)), (1, .int i1), (2, .int i2)] := hl
  clear hP hD0
  suffices main : ∀ (H : Heap) (locs : List Loc), Bd (dC, dI) [(cyI, .int), (cyO, .array .int)] (va_A (cM cyI cyO ad μ) s.heap.size) s (cM cyI cyO ad μ) H locs → W p l e (headSpec wsX4_report rmX4_report).room s m ([.ref (ad 0), .int i1, .int i2] : List Value).toArray below meth c H locs 0 0 (MQ below (QvF (dC, dI) [(cyI, .int), (cyO, .array .int)] (cM cyI cyO ad μ) (cM cyI cyO ad μ_) s.heap.size) ([.ref (ad 0), .int i1, .int i2] : List Value).toArray s 0 0 (va_A (cM cyI cyO ad μ) s.heap.size)) (F0 m 0 ls []) from main _ _ hB
  clear hB
  intro H locs hB
  unfold mX4_report at hf
  refine lv_aload_n hx hb dX4_report_0 rfl (lv_at hl 0 rfl) ?_
  refine g_get (C := RX4) (T := TX4) (N := 15) hx hb hts hinX4 hown hK hB 0 rfl rfl 5 rfl hq1 rfl rfl dX4_report_1 ?_
  refine lv_if_eq (tgt := 8) hx hb dX4_report_4 (by decide) (fun c1 => ?_) (fun c1 => ?_)
  · have hf := ite_t c1 hf
    refine lv_aload_n hx hb dX4_report_8 rfl (lv_at hl 0 rfl) ?_
    refine lv_iload_n hx hb dX4_report_9 rfl (lv_at hl 1 rfl) ?_
    obtain ⟨μ2, e9, hf⟩ := ob1_s hf
    have e9 := inj1 e9
    refine g_put (C := RX4) (T := TX4) (N := 15) hx hb hts hinX4 tyX4 tyX4_ok nmX4 hown hK hB 0 rfl rfl 5 rfl hq1 rfl rfl rfl rfl rfl rfl dX4_report_10 (w2 := (cM cyI cyO ad μ2)) (by rw [← e9]; rfl) (fun H locs hB => ?_)
    refine lv_aload_n hx hb dX4_report_13 rfl (lv_at hl 0 rfl) ?_
    refine lv_iload_n hx hb dX4_report_14 rfl (lv_at hl 2 rfl) ?_
    obtain ⟨μ3, e9, hf⟩ := ob1_s hf
    have e9 := inj1 e9
    refine g_put (C := RX4) (T := TX4) (N := 15) hx hb hts hinX4 tyX4 tyX4_ok nmX4 hown hK hB 0 rfl rfl 6 rfl hq2 rfl rfl rfl rfl rfl rfl dX4_report_15 (w2 := (cM cyI cyO ad μ3)) (by rw [← e9]; rfl) (fun H locs hB => ?_)
    have e0 := inj1 hf
    subst e0
    exact g_vret hx hb hr hlocks hK hB dX4_report_18
  · have hf := ite_f c1 hf
    have e0 := inj1 hf
    subst e0
    exact g_vret hx hb hr hlocks hK hB dX4_report_7

abbrev rmX4_takeWord : Room := { frames := 4, cells := 0, slots := 0, locals := 85 }

set_option maxHeartbeats 4000000 in
set_option maxRecDepth 100000 in
theorem kX4_takeWord (l : Launch) (dC : Nat → ClassId) (dI : Nat → Nat → Nat) (cyI cyO : ClassId) (ad : Nat → Nat) (kS : Nat → Nat) (sz : Nat) {fu : Nat} {μ : MS} {w1 : Nat} {r : Int32} {μ_ : MS} (hw1 : w1 < 18) (hf : mX4_takeWord fu μ w1 = some (r, μ_)) : Met l yX4_takeWord wsX4_takeWord rmX4_takeWord (PcJ (dC, dI) [(cyI, .int), (cyO, .array .int)] kS (cM cyI cyO ad μ) sz [.ref (ad 0), .ref (kS w1)]) (QzF (dC, dI) [(cyI, .int), (cyO, .array .int)] (cM cyI cyO ad μ) (cM cyI cyO ad μ_) sz r) 0 0 (va_A (cM cyI cyO ad μ) sz) := by
  refine Met.ofW (cc := cX4_takeWord) (maxL := 3) (ret := (some .boolean)) (by decide) rfl ?_
  intro p e s m args below meth c s₁ B hml hv
  obtain ⟨rfl, ⟨hsz, hP, hK, hD0⟩, hJ⟩ := hv
  have hx := B.exec
  have hb := B.bytes
  have hr := B.returns
  have hts := atoms_spec (ws := wsX4_takeWord) B.pre
  have hown : s.vm.findClass RX4 = some m.cls := findClass_of_methodNamed B.named
  have hlocks := B.notSynchronized
  subst hsz
  have hA : ∀ q : Nat, s.heap.size ≤ q → va_A (cM cyI cyO ad μ) s.heap.size q := fun q h => Or.inr h
  have hB : Bd (dC, dI) [(cyI, .int), (cyO, .array .int)] (va_A (cM cyI cyO ad μ) s.heap.size) s (cM cyI cyO ad μ) s.heap [] := ⟨hP, hD0.self, va_S.rf⟩
  have hq1 : (Cond.fieldLink RX4 44 "UndoJourneysModel" "position" "I").before _ s = true := hts _ (List.mem_of_getElem? (i := 1) rfl)
  have hinX4 : ∀ w ∈ wsX40, w ∈ wsX4_takeWord := fun w h => List.mem_cons_of_mem _ (List.mem_append_right _ h)
  have hl := lv_entry [.ref (ad 0), .ref (kS w1)] (n := 3) (Nat.le_of_ble_eq_true rfl)
  rw [lg_entry_eq]
  generalize (lg_sl [.ref (ad 0), .ref (kS w1)] ++ List.replicate (3 - (lg_sl [.ref (ad 0), .ref (kS w1)]).length) Slot.unset).toArray = ls at hl ⊢
  have hl : lv_has ls 3 [(0, .ref (ad 0)), (1, .ref (kS w1))] := hl
  clear hP hD0
  suffices main : ∀ (H : Heap) (locs : List Loc), Bd (dC, dI) [(cyI, .int), (cyO, .array .int)] (va_A (cM cyI cyO ad μ) s.heap.size) s (cM cyI cyO ad μ) H locs → W p l e (headSpec wsX4_takeWord rmX4_takeWord).room s m ([.ref (ad 0), .ref (kS w1)] : List Value).toArray below meth c H locs 0 0 (MQ below (QzF (dC, dI) [(cyI, .int), (cyO, .array .int)] (cM cyI cyO ad μ) (cM cyI cyO ad μ_) s.heap.size r) ([.ref (ad 0), .ref (kS w1)] : List Value).toArray s 0 0 (va_A (cM cyI cyO ad μ) s.heap.size)) (F0 m 0 ls []) from main _ _ hB
  clear hB
  intro H locs hB
  unfold mX4_takeWord at hf
  refine lv_aload_n hx hb dX4_takeWord_0 rfl (lv_at hl 0 rfl) ?_
  obtain ⟨r1, hc, hf⟩ := ob1_s hf
  refine g_callVz (As := []) (rest := []) ⟨hx, hb, hml, hown, hts⟩ (kX4_isGood l dC dI cyI cyO ad H.size hc) (cwV 0 hts gX4_takeWord_X4_isGood rfl rfl rfl (by decide +kernel) ⟨Nat.le_of_ble_eq_true rfl, Nat.le_of_ble_eq_true rfl⟩) hK hB hA (g_recv (ci := 4) hK hB 0 rfl rfl rfl) rfl hl.1 rfl (Nat.le_of_ble_eq_true rfl) dX4_takeWord_1 ⟨Nat.zero_le _, Nat.zero_le _⟩ (fun z2 H locs hB => ?_)
  refine lv_if_ne (tgt := 9) hx hb dX4_takeWord_4 (by decide) (fun c3 => ?_) (fun c3 => ?_)
  · have hf := ite_f c3 hf
    refine lv_aload_n hx hb dX4_takeWord_9 rfl (lv_at hl 0 rfl) ?_
    obtain ⟨r4, μ5, hc, hf⟩ := ob2_s hf
    refine g_callVi (As := []) (rest := []) ⟨hx, hb, hml, hown, hts⟩ (kX4_next l dC dI cyI cyO ad H.size hc) (cwV 0 hts gX4_takeWord_X4_next rfl rfl rfl (by decide +kernel) ⟨Nat.le_of_ble_eq_true rfl, Nat.le_of_ble_eq_true rfl⟩) hK hB hA (g_recv (ci := 4) hK hB 0 rfl rfl rfl) rfl hl.1 rfl (Nat.le_of_ble_eq_true rfl) dX4_takeWord_10 ⟨Nat.zero_le _, Nat.zero_le _⟩ (fun H locs hB => ?_)
    refine lv_pop hx hb dX4_takeWord_13 rfl ?_
    refine lv_iconst (v := (0 : Int32)) hx hb dX4_takeWord_14 (by decide) ?_
    refine lv_istore_n (lv' := [(2, .int (0 : Int32)), (0, .ref (ad 0)), (1, .ref (kS w1))]) hx hb dX4_takeWord_15 rfl hl (by decide) rfl (fun ls hl => ?_)
    obtain ⟨v15, hL18, hf⟩ := ob1_s hf
    have kE16 : ∀ (H : Heap) (locs : List Loc) (ls : Array Slot), Bd (dC, dI) [(cyI, .int), (cyO, .array .int)] (va_A (cM cyI cyO ad μ) s.heap.size) s (cM cyI cyO ad μ5) H locs → lv_has ls 3 [(2, .int v15), (0, .ref (ad 0)), (1, .ref (kS w1))] → W p l e (headSpec wsX4_takeWord rmX4_takeWord).room s m ([.ref (ad 0), .ref (kS w1)] : List Value).toArray below meth c H locs 0 0 (MQ below (QzF (dC, dI) [(cyI, .int), (cyO, .array .int)] (cM cyI cyO ad μ) (cM cyI cyO ad μ_) s.heap.size r) ([.ref (ad 0), .ref (kS w1)] : List Value).toArray s 0 0 (va_A (cM cyI cyO ad μ) s.heap.size)) (F0 m 48 ls []) := by
      intro H locs ls hB hl
      refine lv_iload_n hx hb dX4_takeWord_48 rfl (lv_at hl 0 rfl) ?_
      refine lv_aload_n hx hb dX4_takeWord_49 rfl (lv_at hl 2 rfl) ?_
      refine g_jcutVi (As := []) (rest := [.int v15]) (w2 := (cM cyI cyO ad μ5)) ⟨hx, hb, hml, hown, hts⟩ hJ (kJ0_length_8abf5 l dC dI [(cyI, .int), (cyO, .array .int)] H.size hw1) (cwV 0 hts gX4_takeWord_J0_length_8abf5 rfl rfl rfl (by decide +kernel) ⟨Nat.le_of_ble_eq_true rfl, Nat.le_of_ble_eq_true rfl⟩) hK hB hA (recvS hJ hB hw1) [] rfl rfl rfl (by rfl) rfl hl.1 rfl (Nat.le_of_ble_eq_true rfl) dX4_takeWord_50 ⟨Nat.zero_le _, Nat.zero_le _⟩ (fun H locs hB => ?_)
      obtain ⟨t20, hD21, hf⟩ := ob1_s hf
      have kTt20 : t20 = true → ∀ (H : Heap) (locs : List Loc), Bd (dC, dI) [(cyI, .int), (cyO, .array .int)] (va_A (cM cyI cyO ad μ) s.heap.size) s (cM cyI cyO ad μ5) H locs → W p l e (headSpec wsX4_takeWord rmX4_takeWord).room s m ([.ref (ad 0), .ref (kS w1)] : List Value).toArray below meth c H locs 0 0 (MQ below (QzF (dC, dI) [(cyI, .int), (cyO, .array .int)] (cM cyI cyO ad μ) (cM cyI cyO ad μ_) s.heap.size r) ([.ref (ad 0), .ref (kS w1)] : List Value).toArray s 0 0 (va_A (cM cyI cyO ad μ) s.heap.size)) (F0 m 76 ls []) := by
        intro ht H locs hB
        have hf := cnd_t ht hf
        refine lv_iconst (v := (0 : Int32)) hx hb dX4_takeWord_76 (by decide) ?_
        obtain ⟨e0, e1⟩ := inj2 hf
        subst e0
        subst e1
        exact g_zret hx hb hr hlocks hK hB (Or.inl rfl) dX4_takeWord_77
      have kFt20 : t20 = false → ∀ (H : Heap) (locs : List Loc), Bd (dC, dI) [(cyI, .int), (cyO, .array .int)] (va_A (cM cyI cyO ad μ) s.heap.size) s (cM cyI cyO ad μ5) H locs → W p l e (headSpec wsX4_takeWord rmX4_takeWord).room s m ([.ref (ad 0), .ref (kS w1)] : List Value).toArray below meth c H locs 0 0 (MQ below (QzF (dC, dI) [(cyI, .int), (cyO, .array .int)] (cM cyI cyO ad μ) (cM cyI cyO ad μ_) s.heap.size r) ([.ref (ad 0), .ref (kS w1)] : List Value).toArray s 0 0 (va_A (cM cyI cyO ad μ) s.heap.size)) (F0 m 78 ls []) := by
        intro ht H locs hB
        have hf := cnd_f ht hf
        refine lv_aload_n hx hb dX4_takeWord_78 rfl (lv_at hl 1 rfl) ?_
        refine lv_dup hx hb dX4_takeWord_79 rfl ?_
        refine g_get (C := RX4) (T := TX4) (N := 15) hx hb hts hinX4 hown hK hB 0 rfl rfl 4 rfl hq1 rfl rfl dX4_takeWord_80 ?_
        refine lv_iload_n hx hb dX4_takeWord_83 rfl (lv_at hl 0 rfl) ?_
        refine lv_iadd hx hb dX4_takeWord_84 ?_
        obtain ⟨μ27, e9, hf⟩ := ob1_s hf
        have e9 := inj1 e9
        refine g_put (C := RX4) (T := TX4) (N := 15) hx hb hts hinX4 tyX4 tyX4_ok nmX4 hown hK hB 0 rfl rfl 4 rfl hq1 rfl rfl rfl rfl rfl rfl dX4_takeWord_85 (w2 := (cM cyI cyO ad μ27)) (by rw [← e9]; rfl) (fun H locs hB => ?_)
        refine lv_iconst (v := (1 : Int32)) hx hb dX4_takeWord_88 (by decide) ?_
        obtain ⟨e0, e1⟩ := inj2 hf
        subst e0
        subst e1
        exact g_zret hx hb hr hlocks hK hB (Or.inr rfl) dX4_takeWord_89
      refine lv_icmp_lt (tgt := 76) hx hb dX4_takeWord_53 (by decide) (fun c22 => ?_) (fun c22 => ?_)
      · have hD21 := ite_t c22 hD21
        have e0 := inj1 hD21
        exact kTt20 e0.symm _ _ hB
      · have hD21 := ite_f c22 hD21
        refine lv_aload_n hx hb dX4_takeWord_56 rfl (lv_at hl 1 rfl) ?_
        refine lv_aload_n hx hb dX4_takeWord_57 rfl (lv_at hl 1 rfl) ?_
        refine g_get (C := RX4) (T := TX4) (N := 15) hx hb hts hinX4 hown hK hB 0 rfl rfl 4 rfl hq1 rfl rfl dX4_takeWord_58 ?_
        refine lv_iload_n hx hb dX4_takeWord_61 rfl (lv_at hl 0 rfl) ?_
        refine lv_iadd hx hb dX4_takeWord_62 ?_
        obtain ⟨r23, hc, hD21⟩ := ob1_s hD21
        refine g_callVi (As := [.int ((μ5 4 0) + v15)]) (rest := []) ⟨hx, hb, hml, hown, hts⟩ (kX4_byteAt l dC dI cyI cyO ad H.size hc) (cwV 1 hts gX4_takeWord_X4_byteAt rfl rfl rfl (by decide +kernel) ⟨Nat.le_of_ble_eq_true rfl, Nat.le_of_ble_eq_true rfl⟩) hK hB hA (g_recv (ci := 4) hK hB 0 rfl rfl rfl) rfl hl.1 rfl (Nat.le_of_ble_eq_true rfl) dX4_takeWord_63 ⟨Nat.zero_le _, Nat.zero_le _⟩ (fun H locs hB => ?_)
        refine lv_bipush (v := (97 : Int32)) hx hb dX4_takeWord_66 (by decide) ?_
        refine lv_bipush (v := (122 : Int32)) hx hb dX4_takeWord_68 (by decide) ?_
        obtain ⟨r24, hc, hD21⟩ := ob1_s hD21
        refine g_pcutSz (As := [.int r23, .int (97 : Int32), .int (122 : Int32)]) (rest := []) (w2 := (cM cyI cyO ad μ5)) ⟨hx, hb, hml, hown, hts⟩ (kX4_in l dC dI [(cyI, .int), (cyO, .array .int)] H.size hc) (va_cwS 3 hts gX4_takeWord_X4_in rfl rfl rfl (by decide +kernel) ⟨Nat.le_of_ble_eq_true rfl, Nat.le_of_ble_eq_true rfl⟩) hK hB hA (List.Perm.refl _) (List.Perm.refl _) rfl hl.1 rfl (Nat.le_of_ble_eq_true rfl) dX4_takeWord_70 ⟨Nat.zero_le _, Nat.zero_le _⟩ (fun z25 H locs hB => ?_)
        refine lv_if_eq (tgt := 78) hx hb dX4_takeWord_73 (by decide) (fun c26 => ?_) (fun c26 => ?_)
        · have hD21 := ite_t c26 hD21
          have e0 := inj1 hD21
          exact kFt20 e0.symm _ _ hB
        · have hD21 := ite_f c26 hD21
          have e0 := inj1 hD21
          exact kTt20 e0.symm _ _ hB
    have key17 : ∀ (n9 : Nat) (v29 : Int32) (H : Heap) (locs : List Loc) (ls : Array Slot), loopM (fun st => mX4_takeWord_L16 fu w1 μ5 st) n9 v29 = some v15 → Bd (dC, dI) [(cyI, .int), (cyO, .array .int)] (va_A (cM cyI cyO ad μ) s.heap.size) s (cM cyI cyO ad μ5) H locs → lv_has ls 3 [(2, .int v29), (0, .ref (ad 0)), (1, .ref (kS w1))] → W p l e (headSpec wsX4_takeWord rmX4_takeWord).room s m ([.ref (ad 0), .ref (kS w1)] : List Value).toArray below meth c H locs 0 0 (MQ below (QzF (dC, dI) [(cyI, .int), (cyO, .array .int)] (cM cyI cyO ad μ) (cM cyI cyO ad μ_) s.heap.size r) ([.ref (ad 0), .ref (kS w1)] : List Value).toArray s 0 0 (va_A (cM cyI cyO ad μ) s.heap.size)) (F0 m 16 ls []) := by
      intro n9
      induction n9 with
      | zero => intro v29 H locs ls hL18; exact (loopM_z hL18).elim
      | succ n9 ih9 =>
        intro v29 H locs ls hL18 hB hl
        obtain ⟨o30, hg19, hL18⟩ := loopM_s hL18
        have hg19 : mX4_takeWord_L16 fu w1 μ5 v29 = some o30 := hg19
        unfold mX4_takeWord_L16 at hg19
        refine lv_iload_n hx hb dX4_takeWord_16 rfl (lv_at hl 0 rfl) ?_
        refine lv_aload_n hx hb dX4_takeWord_17 rfl (lv_at hl 2 rfl) ?_
        refine g_jcutVi (As := []) (rest := [.int v29]) (w2 := (cM cyI cyO ad μ5)) ⟨hx, hb, hml, hown, hts⟩ hJ (kJ0_length_8abf5 l dC dI [(cyI, .int), (cyO, .array .int)] H.size hw1) (cwV 0 hts gX4_takeWord_J0_length_8abf5 rfl rfl rfl (by decide +kernel) ⟨Nat.le_of_ble_eq_true rfl, Nat.le_of_ble_eq_true rfl⟩) hK hB hA (recvS hJ hB hw1) [] rfl rfl rfl (by rfl) rfl hl.1 rfl (Nat.le_of_ble_eq_true rfl) dX4_takeWord_18 ⟨Nat.zero_le _, Nat.zero_le _⟩ (fun H locs hB => ?_)
        obtain ⟨t31, hD32, hg19⟩ := ob1_s hg19
        have kTt31 : t31 = true → ∀ (H : Heap) (locs : List Loc), Bd (dC, dI) [(cyI, .int), (cyO, .array .int)] (va_A (cM cyI cyO ad μ) s.heap.size) s (cM cyI cyO ad μ5) H locs → W p l e (headSpec wsX4_takeWord rmX4_takeWord).room s m ([.ref (ad 0), .ref (kS w1)] : List Value).toArray below meth c H locs 0 0 (MQ below (QzF (dC, dI) [(cyI, .int), (cyO, .array .int)] (cM cyI cyO ad μ) (cM cyI cyO ad μ_) s.heap.size r) ([.ref (ad 0), .ref (kS w1)] : List Value).toArray s 0 0 (va_A (cM cyI cyO ad μ) s.heap.size)) (F0 m 42 ls []) := by
          intro ht H locs hB
          have hg19 := cnd_t ht hg19
          refine lv_iinc (v := (v29 + (1 : Int32))) (lv' := [(2, .int (v29 + (1 : Int32))), (0, .ref (ad 0)), (1, .ref (kS w1))]) hx hb dX4_takeWord_42 hl (k := 0) rfl rfl (by decide) rfl (fun ls hl => ?_)
          refine lv_goto (tgt := 16) hx hb dX4_takeWord_45 (by decide) ?_
          have hL18 := el1_r (inj1 hg19) hL18
          exact ih9 _ _ _ _ hL18 hB (lv_sub hl [0, 1, 2] rfl)
        have kFt31 : t31 = false → ∀ (H : Heap) (locs : List Loc), Bd (dC, dI) [(cyI, .int), (cyO, .array .int)] (va_A (cM cyI cyO ad μ) s.heap.size) s (cM cyI cyO ad μ5) H locs → W p l e (headSpec wsX4_takeWord rmX4_takeWord).room s m ([.ref (ad 0), .ref (kS w1)] : List Value).toArray below meth c H locs 0 0 (MQ below (QzF (dC, dI) [(cyI, .int), (cyO, .array .int)] (cM cyI cyO ad μ) (cM cyI cyO ad μ_) s.heap.size r) ([.ref (ad 0), .ref (kS w1)] : List Value).toArray s 0 0 (va_A (cM cyI cyO ad μ) s.heap.size)) (F0 m 48 ls []) := by
          intro ht H locs hB
          have hg19 := cnd_f ht hg19
          have hL18 := el1_l (inj1 hg19) hL18
          have e0 := inj1 hL18
          subst e0
          exact kE16 _ _ _ hB (lv_sub hl [0, 1, 2] rfl)
        refine lv_icmp_ge (tgt := 48) hx hb dX4_takeWord_21 (by decide) (fun c33 => ?_) (fun c33 => ?_)
        · have hD32 := ite_t c33 hD32
          have e0 := inj1 hD32
          exact kFt31 e0.symm _ _ hB
        · have hD32 := ite_f c33 hD32
          refine lv_aload_n hx hb dX4_takeWord_24 rfl (lv_at hl 1 rfl) ?_
          refine lv_aload_n hx hb dX4_takeWord_25 rfl (lv_at hl 1 rfl) ?_
          refine g_get (C := RX4) (T := TX4) (N := 15) hx hb hts hinX4 hown hK hB 0 rfl rfl 4 rfl hq1 rfl rfl dX4_takeWord_26 ?_
          refine lv_iload_n hx hb dX4_takeWord_29 rfl (lv_at hl 0 rfl) ?_
          refine lv_iadd hx hb dX4_takeWord_30 ?_
          obtain ⟨r34, hc, hD32⟩ := ob1_s hD32
          refine g_callVi (As := [.int ((μ5 4 0) + v29)]) (rest := []) ⟨hx, hb, hml, hown, hts⟩ (kX4_byteAt l dC dI cyI cyO ad H.size hc) (cwV 1 hts gX4_takeWord_X4_byteAt rfl rfl rfl (by decide +kernel) ⟨Nat.le_of_ble_eq_true rfl, Nat.le_of_ble_eq_true rfl⟩) hK hB hA (g_recv (ci := 4) hK hB 0 rfl rfl rfl) rfl hl.1 rfl (Nat.le_of_ble_eq_true rfl) dX4_takeWord_31 ⟨Nat.zero_le _, Nat.zero_le _⟩ (fun H locs hB => ?_)
          refine lv_aload_n hx hb dX4_takeWord_34 rfl (lv_at hl 2 rfl) ?_
          refine lv_iload_n hx hb dX4_takeWord_35 rfl (lv_at hl 0 rfl) ?_
          obtain ⟨x35, hc, hD32⟩ := ob1_s hD32
          refine g_jcutVi (As := [.int v29]) (rest := [.int r34]) (w2 := (cM cyI cyO ad μ5)) ⟨hx, hb, hml, hown, hts⟩ hJ (kChr l dC dI [(cyI, .int), (cyO, .array .int)] H.size hw1 hc) (cwV 1 hts gX4_takeWord_J0_charAt_5068e rfl rfl rfl (by decide +kernel) ⟨Nat.le_of_ble_eq_true rfl, Nat.le_of_ble_eq_true rfl⟩) hK hB hA (recvS hJ hB hw1) [] rfl rfl rfl (by rfl) rfl hl.1 rfl (Nat.le_of_ble_eq_true rfl) dX4_takeWord_36 ⟨Nat.zero_le _, Nat.zero_le _⟩ (fun H locs hB => ?_)
          refine lv_icmp_ne (tgt := 48) hx hb dX4_takeWord_39 (by decide) (fun c36 => ?_) (fun c36 => ?_)
          · have hD32 := ite_f c36 hD32
            have e0 := inj1 hD32
            exact kFt31 e0.symm _ _ hB
          · have hD32 := ite_t c36 hD32
            have e0 := inj1 hD32
            exact kTt31 e0.symm _ _ hB
    exact key17 fu _ _ _ _ hL18 hB (lv_sub hl [0, 1, 2] rfl)
  · have hf := ite_t c3 hf
    refine lv_iconst (v := (0 : Int32)) hx hb dX4_takeWord_7 (by decide) ?_
    obtain ⟨e0, e1⟩ := inj2 hf
    subst e0
    subst e1
    exact g_zret hx hb hr hlocks hK hB (Or.inl rfl) dX4_takeWord_8

abbrev rmX4_expect : Room := { frames := 2, cells := 0, slots := 0, locals := 41 }

set_option maxHeartbeats 4000000 in
set_option maxRecDepth 100000 in
theorem kX4_expect (l : Launch) (dC : Nat → ClassId) (dI : Nat → Nat → Nat) (cyI cyO : ClassId) (ad : Nat → Nat) (sz : Nat) {fu : Nat} {μ : MS} {i1 : Int32} {μ_ : MS} (hf : mX4_expect fu μ i1 = some μ_) : Met l yX4_expect wsX4_expect rmX4_expect (PcF (dC, dI) [(cyI, .int), (cyO, .array .int)] (cM cyI cyO ad μ) sz [.ref (ad 0), .int i1]) (QvF (dC, dI) [(cyI, .int), (cyO, .array .int)] (cM cyI cyO ad μ) (cM cyI cyO ad μ_) sz) 0 0 (va_A (cM cyI cyO ad μ) sz) := by
  refine Met.ofW (cc := cX4_expect) (maxL := 2) (ret := none) (by decide) rfl ?_
  intro p e s m args below meth c s₁ B hml hv
  obtain ⟨rfl, hsz, hP, hK, hD0⟩ := hv
  have hx := B.exec
  have hb := B.bytes
  have hr := B.returns
  have hts := atoms_spec (ws := wsX4_expect) B.pre
  have hown : s.vm.findClass RX4 = some m.cls := findClass_of_methodNamed B.named
  have hlocks := B.notSynchronized
  subst hsz
  have hA : ∀ q : Nat, s.heap.size ≤ q → va_A (cM cyI cyO ad μ) s.heap.size q := fun q h => Or.inr h
  have hB : Bd (dC, dI) [(cyI, .int), (cyO, .array .int)] (va_A (cM cyI cyO ad μ) s.heap.size) s (cM cyI cyO ad μ) s.heap [] := ⟨hP, hD0.self, va_S.rf⟩
  have hq1 : (Cond.fieldLink RX4 44 "UndoJourneysModel" "position" "I").before _ s = true := hts _ (List.mem_of_getElem? (i := 1) rfl)
  have hinX4 : ∀ w ∈ wsX40, w ∈ wsX4_expect := fun w h => List.mem_cons_of_mem _ (List.mem_append_right _ h)
  have hl := lv_entry [.ref (ad 0), .int i1] (n := 2) (Nat.le_of_ble_eq_true rfl)
  rw [lg_entry_eq]
  generalize (lg_sl [.ref (ad 0), .int i1] ++ List.replicate (2 - (lg_sl [.ref (ad 0), .int i1]).length) Slot.unset).toArray = ls at hl ⊢
  have hl : lv_has ls 2 [(0, .ref (ad 0)), (1, .int i1)] := hl
  clear hP hD0
  suffices main : ∀ (H : Heap) (locs : List Loc), Bd (dC, dI) [(cyI, .int), (cyO, .array .int)] (va_A (cM cyI cyO ad μ) s.heap.size) s (cM cyI cyO ad μ) H locs → W p l e (headSpec wsX4_expect rmX4_expect).room s m ([.ref (ad 0), .int i1] : List Value).toArray below meth c H locs 0 0 (MQ below (QvF (dC, dI) [(cyI, .int), (cyO, .array .int)] (cM cyI cyO ad μ) (cM cyI cyO ad μ_) s.heap.size) ([.ref (ad 0), .int i1] : List Value).toArray s 0 0 (va_A (cM cyI cyO ad μ) s.heap.size)) (F0 m 0 ls []) from main _ _ hB
  clear hB
  intro H locs hB
  unfold mX4_expect at hf
  refine lv_aload_n hx hb dX4_expect_0 rfl (lv_at hl 0 rfl) ?_
  obtain ⟨r1, hc, hf⟩ := ob1_s hf
  refine g_callVz (As := []) (rest := []) ⟨hx, hb, hml, hown, hts⟩ (kX4_isGood l dC dI cyI cyO ad H.size hc) (cwV 0 hts gX4_expect_X4_isGood rfl rfl rfl (by decide +kernel) ⟨Nat.le_of_ble_eq_true rfl, Nat.le_of_ble_eq_true rfl⟩) hK hB hA (g_recv (ci := 4) hK hB 0 rfl rfl rfl) rfl hl.1 rfl (Nat.le_of_ble_eq_true rfl) dX4_expect_1 ⟨Nat.zero_le _, Nat.zero_le _⟩ (fun z2 H locs hB => ?_)
  refine lv_if_ne (tgt := 8) hx hb dX4_expect_4 (by decide) (fun c3 => ?_) (fun c3 => ?_)
  · have hf := ite_f c3 hf
    refine lv_aload_n hx hb dX4_expect_8 rfl (lv_at hl 0 rfl) ?_
    obtain ⟨r4, μ5, hc, hf⟩ := ob2_s hf
    refine g_callVi (As := []) (rest := []) ⟨hx, hb, hml, hown, hts⟩ (kX4_next l dC dI cyI cyO ad H.size hc) (cwV 0 hts gX4_expect_X4_next rfl rfl rfl (by decide +kernel) ⟨Nat.le_of_ble_eq_true rfl, Nat.le_of_ble_eq_true rfl⟩) hK hB hA (g_recv (ci := 4) hK hB 0 rfl rfl rfl) rfl hl.1 rfl (Nat.le_of_ble_eq_true rfl) dX4_expect_9 ⟨Nat.zero_le _, Nat.zero_le _⟩ (fun H locs hB => ?_)
    refine lv_iload_n hx hb dX4_expect_12 rfl (lv_at hl 1 rfl) ?_
    obtain ⟨μ6, hJ7, hf⟩ := ob1_s hf
    have kJ8 : ∀ (H : Heap) (locs : List Loc) (ls : Array Slot), Bd (dC, dI) [(cyI, .int), (cyO, .array .int)] (va_A (cM cyI cyO ad μ) s.heap.size) s (cM cyI cyO ad μ6) H locs → lv_has ls 2 [] → W p l e (headSpec wsX4_expect rmX4_expect).room s m ([.ref (ad 0), .int i1] : List Value).toArray below meth c H locs 0 0 (MQ below (QvF (dC, dI) [(cyI, .int), (cyO, .array .int)] (cM cyI cyO ad μ) (cM cyI cyO ad μ_) s.heap.size) ([.ref (ad 0), .int i1] : List Value).toArray s 0 0 (va_A (cM cyI cyO ad μ) s.heap.size)) (F0 m 39 ls []) := by
      intro H locs ls hB hl
      have e0 := inj1 hf
      subst e0
      exact g_vret hx hb hr hlocks hK hB dX4_expect_39
    refine lv_icmp_ne (tgt := 29) hx hb dX4_expect_13 (by decide) (fun c9 => ?_) (fun c9 => ?_)
    · have hJ7 := ite_f c9 hJ7
      refine lv_aload_n hx hb dX4_expect_29 rfl (lv_at hl 0 rfl) ?_
      refine lv_bipush (v := (-2 : Int32)) hx hb dX4_expect_30 (by decide) ?_
      refine lv_aload_n hx hb dX4_expect_32 rfl (lv_at hl 0 rfl) ?_
      refine g_get (C := RX4) (T := TX4) (N := 15) hx hb hts hinX4 hown hK hB 0 rfl rfl 4 rfl hq1 rfl rfl dX4_expect_33 ?_
      obtain ⟨μ10, hc, hJ7⟩ := ob1_s hJ7
      refine g_callVv (As := [.int (-2 : Int32), .int (μ5 4 0)]) (rest := []) ⟨hx, hb, hml, hown, hts⟩ (kX4_report l dC dI cyI cyO ad H.size hc) (cwV 2 hts gX4_expect_X4_report rfl rfl rfl (by decide +kernel) ⟨Nat.le_of_ble_eq_true rfl, Nat.le_of_ble_eq_true rfl⟩) hK hB hA (g_recv (ci := 4) hK hB 0 rfl rfl rfl) rfl hl.1 rfl (Nat.le_of_ble_eq_true rfl) dX4_expect_36 ⟨Nat.zero_le _, Nat.zero_le _⟩ (fun H locs hB => ?_)
      have e0 := inj1 hJ7
      subst e0
      exact kJ8 _ _ _ hB (lv_sub hl [] rfl)
    · have hJ7 := ite_t c9 hJ7
      refine lv_aload_n hx hb dX4_expect_16 rfl (lv_at hl 0 rfl) ?_
      refine lv_dup hx hb dX4_expect_17 rfl ?_
      refine g_get (C := RX4) (T := TX4) (N := 15) hx hb hts hinX4 hown hK hB 0 rfl rfl 4 rfl hq1 rfl rfl dX4_expect_18 ?_
      refine lv_iconst (v := (1 : Int32)) hx hb dX4_expect_21 (by decide) ?_
      refine lv_iadd hx hb dX4_expect_22 ?_
      obtain ⟨μ11, e9, hJ7⟩ := ob1_s hJ7
      have e9 := inj1 e9
      refine g_put (C := RX4) (T := TX4) (N := 15) hx hb hts hinX4 tyX4 tyX4_ok nmX4 hown hK hB 0 rfl rfl 4 rfl hq1 rfl rfl rfl rfl rfl rfl dX4_expect_23 (w2 := (cM cyI cyO ad μ11)) (by rw [← e9]; rfl) (fun H locs hB => ?_)
      refine lv_goto (tgt := 39) hx hb dX4_expect_26 (by decide) ?_
      have e0 := inj1 hJ7
      subst e0
      exact kJ8 _ _ _ hB (lv_sub hl [] rfl)
  · have hf := ite_t c3 hf
    have e0 := inj1 hf
    subst e0
    exact g_vret hx hb hr hlocks hK hB dX4_expect_7

abbrev rmX4_number : Room := { frames := 2, cells := 0, slots := 0, locals := 42 }

set_option maxHeartbeats 4000000 in
set_option maxRecDepth 100000 in
theorem kX4_number (l : Launch) (dC : Nat → ClassId) (dI : Nat → Nat → Nat) (cyI cyO : ClassId) (ad : Nat → Nat) (sz : Nat) {fu : Nat} {μ : MS} {i1 : Int32} {i2 : Int32} {r : Int32} {μ_ : MS} (hf : mX4_number fu μ i1 i2 = some (r, μ_)) : Met l yX4_number wsX4_number rmX4_number (PcF (dC, dI) [(cyI, .int), (cyO, .array .int)] (cM cyI cyO ad μ) sz [.ref (ad 0), .int i1, .int i2]) (QiF (dC, dI) [(cyI, .int), (cyO, .array .int)] (cM cyI cyO ad μ) (cM cyI cyO ad μ_) sz r) 0 0 (va_A (cM cyI cyO ad μ) sz) := by
  refine Met.ofW (cc := cX4_number) (maxL := 4) (ret := (some .int)) (by decide) rfl ?_
  intro p e s m args below meth c s₁ B hml hv
  obtain ⟨rfl, hsz, hP, hK, hD0⟩ := hv
  have hx := B.exec
  have hb := B.bytes
  have hr := B.returns
  have hts := atoms_spec (ws := wsX4_number) B.pre
  have hown : s.vm.findClass RX4 = some m.cls := findClass_of_methodNamed B.named
  have hlocks := B.notSynchronized
  subst hsz
  have hA : ∀ q : Nat, s.heap.size ≤ q → va_A (cM cyI cyO ad μ) s.heap.size q := fun q h => Or.inr h
  have hB : Bd (dC, dI) [(cyI, .int), (cyO, .array .int)] (va_A (cM cyI cyO ad μ) s.heap.size) s (cM cyI cyO ad μ) s.heap [] := ⟨hP, hD0.self, va_S.rf⟩
  have hq1 : (Cond.fieldLink RX4 44 "UndoJourneysModel" "position" "I").before _ s = true := hts _ (List.mem_of_getElem? (i := 1) rfl)
  have hq2 : (Cond.fieldLink RX4 86 "UndoJourneysModel" "numberStart" "I").before _ s = true := hts _ (List.mem_of_getElem? (i := 2) rfl)
  have hq3 : (Cond.constant RX4 89 (1000000)).before _ s = true := hts _ (List.mem_of_getElem? (i := 3) rfl)
  have hinX4 : ∀ w ∈ wsX40, w ∈ wsX4_number := fun w h => List.mem_cons_of_mem _ (List.mem_append_right _ h)
  have hl := lv_entry [.ref (ad 0), .int i1, .int i2] (n := 4) (Nat.le_of_ble_eq_true rfl)
  rw [lg_entry_eq]
  generalize (lg_sl [.ref (ad 0), .int i1, .int i2] ++ List.replicate (4 - (lg_sl [.ref (ad 0), .int i1, .int i2]).length) Slot.unset).toArray = ls at hl ⊢
  have hl : lv_has ls 4 [(0, .ref (ad 0)), (1, .int i1), (2, .int i2)] := hl
  clear hP hD0
  suffices main : ∀ (H : Heap) (locs : List Loc), Bd (dC, dI) [(cyI, .int), (cyO, .array .int)] (va_A (cM cyI cyO ad μ) s.heap.size) s (cM cyI cyO ad μ) H locs → W p l e (headSpec wsX4_number rmX4_number).room s m ([.ref (ad 0), .int i1, .int i2] : List Value).toArray below meth c H locs 0 0 (MQ below (QiF (dC, dI) [(cyI, .int), (cyO, .array .int)] (cM cyI cyO ad μ) (cM cyI cyO ad μ_) s.heap.size r) ([.ref (ad 0), .int i1, .int i2] : List Value).toArray s 0 0 (va_A (cM cyI cyO ad μ) s.heap.size)) (F0 m 0 ls []) from main _ _ hB
  clear hB
  intro H locs hB
  unfold mX4_number at hf
  refine lv_aload_n hx hb dX4_number_0 rfl (lv_at hl 0 rfl) ?_
  obtain ⟨r1, hc, hf⟩ := ob1_s hf
  refine g_callVz (As := []) (rest := []) ⟨hx, hb, hml, hown, hts⟩ (kX4_isGood l dC dI cyI cyO ad H.size hc) (cwV 0 hts gX4_number_X4_isGood rfl rfl rfl (by decide +kernel) ⟨Nat.le_of_ble_eq_true rfl, Nat.le_of_ble_eq_true rfl⟩) hK hB hA (g_recv (ci := 4) hK hB 0 rfl rfl rfl) rfl hl.1 rfl (Nat.le_of_ble_eq_true rfl) dX4_number_1 ⟨Nat.zero_le _, Nat.zero_le _⟩ (fun z2 H locs hB => ?_)
  refine lv_if_ne (tgt := 9) hx hb dX4_number_4 (by decide) (fun c3 => ?_) (fun c3 => ?_)
  · have hf := ite_f c3 hf
    refine lv_aload_n hx hb dX4_number_9 rfl (lv_at hl 0 rfl) ?_
    obtain ⟨r4, μ5, hc, hf⟩ := ob2_s hf
    refine g_callVi (As := []) (rest := []) ⟨hx, hb, hml, hown, hts⟩ (kX4_next l dC dI cyI cyO ad H.size hc) (cwV 0 hts gX4_number_X4_next rfl rfl rfl (by decide +kernel) ⟨Nat.le_of_ble_eq_true rfl, Nat.le_of_ble_eq_true rfl⟩) hK hB hA (g_recv (ci := 4) hK hB 0 rfl rfl rfl) rfl hl.1 rfl (Nat.le_of_ble_eq_true rfl) dX4_number_10 ⟨Nat.zero_le _, Nat.zero_le _⟩ (fun H locs hB => ?_)
    obtain ⟨r6, hc, hf⟩ := ob1_s hf
    refine g_pcutSz (As := [.int r4]) (rest := []) (w2 := (cM cyI cyO ad μ5)) ⟨hx, hb, hml, hown, hts⟩ (kX4_isDigit l dC dI [(cyI, .int), (cyO, .array .int)] H.size hc) (va_cwS 1 hts gX4_number_X4_isDigit rfl rfl rfl (by decide +kernel) ⟨Nat.le_of_ble_eq_true rfl, Nat.le_of_ble_eq_true rfl⟩) hK hB hA (List.Perm.refl _) (List.Perm.refl _) rfl hl.1 rfl (Nat.le_of_ble_eq_true rfl) dX4_number_13 ⟨Nat.zero_le _, Nat.zero_le _⟩ (fun z7 H locs hB => ?_)
    refine lv_if_ne (tgt := 31) hx hb dX4_number_16 (by decide) (fun c8 => ?_) (fun c8 => ?_)
    · have hf := ite_f c8 hf
      refine lv_aload_n hx hb dX4_number_31 rfl (lv_at hl 0 rfl) ?_
      refine lv_aload_n hx hb dX4_number_32 rfl (lv_at hl 0 rfl) ?_
      refine g_get (C := RX4) (T := TX4) (N := 15) hx hb hts hinX4 hown hK hB 0 rfl rfl 4 rfl hq1 rfl rfl dX4_number_33 ?_
      obtain ⟨μ9, e9, hf⟩ := ob1_s hf
      have e9 := inj1 e9
      refine g_put (C := RX4) (T := TX4) (N := 15) hx hb hts hinX4 tyX4 tyX4_ok nmX4 hown hK hB 0 rfl rfl 13 rfl hq2 rfl rfl rfl rfl rfl rfl dX4_number_36 (w2 := (cM cyI cyO ad μ9)) (by rw [← e9]; rfl) (fun H locs hB => ?_)
      refine lv_iconst (v := (0 : Int32)) hx hb dX4_number_39 (by decide) ?_
      refine lv_istore_n (lv' := [(3, .int (0 : Int32)), (0, .ref (ad 0)), (1, .int i1), (2, .int i2)]) hx hb dX4_number_40 rfl hl (by decide) rfl (fun ls hl => ?_)
      obtain ⟨v21, μ22, hL25, hf⟩ := ob2_s hf
      have kE23 : ∀ (H : Heap) (locs : List Loc) (ls : Array Slot), Bd (dC, dI) [(cyI, .int), (cyO, .array .int)] (va_A (cM cyI cyO ad μ) s.heap.size) s (cM cyI cyO ad μ22) H locs → lv_has ls 4 [(3, .int v21), (0, .ref (ad 0)), (1, .int i1), (2, .int i2)] → W p l e (headSpec wsX4_number rmX4_number).room s m ([.ref (ad 0), .int i1, .int i2] : List Value).toArray below meth c H locs 0 0 (MQ below (QiF (dC, dI) [(cyI, .int), (cyO, .array .int)] (cM cyI cyO ad μ) (cM cyI cyO ad μ_) s.heap.size r) ([.ref (ad 0), .int i1, .int i2] : List Value).toArray s 0 0 (va_A (cM cyI cyO ad μ) s.heap.size)) (F0 m 90 ls []) := by
        intro H locs ls hB hl
        refine lv_iload_n hx hb dX4_number_90 rfl (lv_at hl 0 rfl) ?_
        refine lv_iload_n hx hb dX4_number_91 rfl (lv_at hl 2 rfl) ?_
        refine lv_iload_n hx hb dX4_number_92 rfl (lv_at hl 3 rfl) ?_
        obtain ⟨r27, hc, hf⟩ := ob1_s hf
        refine g_pcutSz (As := [.int v21, .int i1, .int i2]) (rest := []) (w2 := (cM cyI cyO ad μ22)) ⟨hx, hb, hml, hown, hts⟩ (kX4_in l dC dI [(cyI, .int), (cyO, .array .int)] H.size hc) (va_cwS 3 hts gX4_number_X4_in rfl rfl rfl (by decide +kernel) ⟨Nat.le_of_ble_eq_true rfl, Nat.le_of_ble_eq_true rfl⟩) hK hB hA (List.Perm.refl _) (List.Perm.refl _) rfl hl.1 rfl (Nat.le_of_ble_eq_true rfl) dX4_number_93 ⟨Nat.zero_le _, Nat.zero_le _⟩ (fun z28 H locs hB => ?_)
        obtain ⟨μ29, hJ30, hf⟩ := ob1_s hf
        have kJ31 : ∀ (H : Heap) (locs : List Loc) (ls : Array Slot), Bd (dC, dI) [(cyI, .int), (cyO, .array .int)] (va_A (cM cyI cyO ad μ) s.heap.size) s (cM cyI cyO ad μ29) H locs → lv_has ls 4 [(3, .int v21)] → W p l e (headSpec wsX4_number rmX4_number).room s m ([.ref (ad 0), .int i1, .int i2] : List Value).toArray below meth c H locs 0 0 (MQ below (QiF (dC, dI) [(cyI, .int), (cyO, .array .int)] (cM cyI cyO ad μ) (cM cyI cyO ad μ_) s.heap.size r) ([.ref (ad 0), .int i1, .int i2] : List Value).toArray s 0 0 (va_A (cM cyI cyO ad μ) s.heap.size)) (F0 m 109 ls []) := by
          intro H locs ls hB hl
          refine lv_iload_n hx hb dX4_number_109 rfl (lv_at hl 0 rfl) ?_
          obtain ⟨e0, e1⟩ := inj2 hf
          subst e0
          subst e1
          exact g_iret hx hb hr hlocks hK hB dX4_number_110
        refine lv_if_ne (tgt := 109) hx hb dX4_number_96 (by decide) (fun c32 => ?_) (fun c32 => ?_)
        · have hJ30 := ite_f c32 hJ30
          have e0 := inj1 hJ30
          subst e0
          exact kJ31 _ _ _ hB (lv_sub hl [0] rfl)
        · have hJ30 := ite_t c32 hJ30
          refine lv_aload_n hx hb dX4_number_99 rfl (lv_at hl 1 rfl) ?_
          refine lv_bipush (v := (-3 : Int32)) hx hb dX4_number_100 (by decide) ?_
          refine lv_aload_n hx hb dX4_number_102 rfl (lv_at hl 1 rfl) ?_
          refine g_get (C := RX4) (T := TX4) (N := 15) hx hb hts hinX4 hown hK hB 0 rfl rfl 13 rfl hq2 rfl rfl dX4_number_103 ?_
          obtain ⟨μ33, hc, hJ30⟩ := ob1_s hJ30
          refine g_callVv (As := [.int (-3 : Int32), .int (μ22 13 0)]) (rest := []) ⟨hx, hb, hml, hown, hts⟩ (kX4_report l dC dI cyI cyO ad H.size hc) (cwV 2 hts gX4_number_X4_report rfl rfl rfl (by decide +kernel) ⟨Nat.le_of_ble_eq_true rfl, Nat.le_of_ble_eq_true rfl⟩) hK hB hA (g_recv (ci := 4) hK hB 0 rfl rfl rfl) rfl hl.1 rfl (Nat.le_of_ble_eq_true rfl) dX4_number_106 ⟨Nat.zero_le _, Nat.zero_le _⟩ (fun H locs hB => ?_)
          have e0 := inj1 hJ30
          subst e0
          exact kJ31 _ _ _ hB (lv_sub hl [0] rfl)
      have key24 : ∀ (n9 : Nat) (v35 : Int32) (μ36 : MS) (H : Heap) (locs : List Loc) (ls : Array Slot), loopM (fun st => mX4_number_L41 fu i1 i2 st.1 st.2) n9 (v35, μ36) = some (v21, μ22) → Bd (dC, dI) [(cyI, .int), (cyO, .array .int)] (va_A (cM cyI cyO ad μ) s.heap.size) s (cM cyI cyO ad μ36) H locs → lv_has ls 4 [(3, .int v35), (0, .ref (ad 0)), (1, .int i1), (2, .int i2)] → W p l e (headSpec wsX4_number rmX4_number).room s m ([.ref (ad 0), .int i1, .int i2] : List Value).toArray below meth c H locs 0 0 (MQ below (QiF (dC, dI) [(cyI, .int), (cyO, .array .int)] (cM cyI cyO ad μ) (cM cyI cyO ad μ_) s.heap.size r) ([.ref (ad 0), .int i1, .int i2] : List Value).toArray s 0 0 (va_A (cM cyI cyO ad μ) s.heap.size)) (F0 m 41 ls []) := by
        intro n9
        induction n9 with
        | zero => intro v35 μ36 H locs ls hL25; exact (loopM_z hL25).elim
        | succ n9 ih9 =>
          intro v35 μ36 H locs ls hL25 hB hl
          obtain ⟨o37, hg26, hL25⟩ := loopM_s hL25
          have hg26 : mX4_number_L41 fu i1 i2 v35 μ36 = some o37 := hg26
          unfold mX4_number_L41 at hg26
          refine lv_aload_n hx hb dX4_number_41 rfl (lv_at hl 1 rfl) ?_
          refine lv_aload_n hx hb dX4_number_42 rfl (lv_at hl 1 rfl) ?_
          refine g_get (C := RX4) (T := TX4) (N := 15) hx hb hts hinX4 hown hK hB 0 rfl rfl 4 rfl hq1 rfl rfl dX4_number_43 ?_
          obtain ⟨r38, hc, hg26⟩ := ob1_s hg26
          refine g_callVi (As := [.int (μ36 4 0)]) (rest := []) ⟨hx, hb, hml, hown, hts⟩ (kX4_byteAt l dC dI cyI cyO ad H.size hc) (cwV 1 hts gX4_number_X4_byteAt rfl rfl rfl (by decide +kernel) ⟨Nat.le_of_ble_eq_true rfl, Nat.le_of_ble_eq_true rfl⟩) hK hB hA (g_recv (ci := 4) hK hB 0 rfl rfl rfl) rfl hl.1 rfl (Nat.le_of_ble_eq_true rfl) dX4_number_46 ⟨Nat.zero_le _, Nat.zero_le _⟩ (fun H locs hB => ?_)
          obtain ⟨r39, hc, hg26⟩ := ob1_s hg26
          refine g_pcutSz (As := [.int r38]) (rest := []) (w2 := (cM cyI cyO ad μ36)) ⟨hx, hb, hml, hown, hts⟩ (kX4_isDigit l dC dI [(cyI, .int), (cyO, .array .int)] H.size hc) (va_cwS 1 hts gX4_number_X4_isDigit rfl rfl rfl (by decide +kernel) ⟨Nat.le_of_ble_eq_true rfl, Nat.le_of_ble_eq_true rfl⟩) hK hB hA (List.Perm.refl _) (List.Perm.refl _) rfl hl.1 rfl (Nat.le_of_ble_eq_true rfl) dX4_number_49 ⟨Nat.zero_le _, Nat.zero_le _⟩ (fun z40 H locs hB => ?_)
          refine lv_if_eq (tgt := 90) hx hb dX4_number_52 (by decide) (fun c41 => ?_) (fun c41 => ?_)
          · have hg26 := ite_t c41 hg26
            have hL25 := el1_l (inj1 hg26) hL25
            obtain ⟨e0, e1⟩ := inj2 hL25
            subst e0
            subst e1
            exact kE23 _ _ _ hB (lv_sub hl [0, 1, 2, 3] rfl)
          · have hg26 := ite_f c41 hg26
            refine lv_ldc (v := (1000000 : Int32)) hx hb hown hq3 dX4_number_55 ?_
            refine lv_bipush (v := (10 : Int32)) hx hb dX4_number_57 (by decide) ?_
            refine lv_iload_n hx hb dX4_number_59 rfl (lv_at hl 0 rfl) ?_
            refine lv_imul hx hb dX4_number_60 ?_
            refine lv_aload_n hx hb dX4_number_61 rfl (lv_at hl 1 rfl) ?_
            refine lv_aload_n hx hb dX4_number_62 rfl (lv_at hl 1 rfl) ?_
            refine g_get (C := RX4) (T := TX4) (N := 15) hx hb hts hinX4 hown hK hB 0 rfl rfl 4 rfl hq1 rfl rfl dX4_number_63 ?_
            obtain ⟨r42, hc, hg26⟩ := ob1_s hg26
            refine g_callVi (As := [.int (μ36 4 0)]) (rest := [.int ((10 : Int32) * v35), .int (1000000 : Int32)]) ⟨hx, hb, hml, hown, hts⟩ (kX4_byteAt l dC dI cyI cyO ad H.size hc) (cwV 1 hts gX4_number_X4_byteAt rfl rfl rfl (by decide +kernel) ⟨Nat.le_of_ble_eq_true rfl, Nat.le_of_ble_eq_true rfl⟩) hK hB hA (g_recv (ci := 4) hK hB 0 rfl rfl rfl) rfl hl.1 rfl (Nat.le_of_ble_eq_true rfl) dX4_number_66 ⟨Nat.zero_le _, Nat.zero_le _⟩ (fun H locs hB => ?_)
            refine lv_iadd hx hb dX4_number_69 ?_
            refine lv_bipush (v := (48 : Int32)) hx hb dX4_number_70 (by decide) ?_
            refine lv_isub hx hb dX4_number_72 ?_
            obtain ⟨r43, hc, hg26⟩ := ob1_s hg26
            refine g_pcutSi (As := [.int (1000000 : Int32), .int ((((10 : Int32) * v35) + r42) - (48 : Int32))]) (rest := []) (w2 := (cM cyI cyO ad μ36)) ⟨hx, hb, hml, hown, hts⟩ (kX4_min l dC dI [(cyI, .int), (cyO, .array .int)] H.size hc) (va_cwS 2 hts gX4_number_X4_min rfl rfl rfl (by decide +kernel) ⟨Nat.le_of_ble_eq_true rfl, Nat.le_of_ble_eq_true rfl⟩) hK hB hA (List.Perm.refl _) (List.Perm.refl _) rfl hl.1 rfl (Nat.le_of_ble_eq_true rfl) dX4_number_73 ⟨Nat.zero_le _, Nat.zero_le _⟩ (fun H locs hB => ?_)
            refine lv_istore_n (lv' := [(3, .int r43), (0, .ref (ad 0)), (1, .int i1), (2, .int i2)]) hx hb dX4_number_76 rfl hl (by decide) rfl (fun ls hl => ?_)
            refine lv_aload_n hx hb dX4_number_77 rfl (lv_at hl 1 rfl) ?_
            refine lv_dup hx hb dX4_number_78 rfl ?_
            refine g_get (C := RX4) (T := TX4) (N := 15) hx hb hts hinX4 hown hK hB 0 rfl rfl 4 rfl hq1 rfl rfl dX4_number_79 ?_
            refine lv_iconst (v := (1 : Int32)) hx hb dX4_number_82 (by decide) ?_
            refine lv_iadd hx hb dX4_number_83 ?_
            obtain ⟨μ44, e9, hg26⟩ := ob1_s hg26
            have e9 := inj1 e9
            refine g_put (C := RX4) (T := TX4) (N := 15) hx hb hts hinX4 tyX4 tyX4_ok nmX4 hown hK hB 0 rfl rfl 4 rfl hq1 rfl rfl rfl rfl rfl rfl dX4_number_84 (w2 := (cM cyI cyO ad μ44)) (by rw [← e9]; rfl) (fun H locs hB => ?_)
            refine lv_goto (tgt := 41) hx hb dX4_number_87 (by decide) ?_
            have hL25 := el1_r (inj1 hg26) hL25
            exact ih9 _ _ _ _ _ hL25 hB (lv_sub hl [0, 1, 2, 3] rfl)
      exact key24 fu _ _ _ _ _ hL25 hB (lv_sub hl [0, 1, 2, 3] rfl)
    · have hf := ite_t c8 hf
      refine lv_aload_n hx hb dX4_number_19 rfl (lv_at hl 0 rfl) ?_
      refine lv_bipush (v := (-2 : Int32)) hx hb dX4_number_20 (by decide) ?_
      refine lv_aload_n hx hb dX4_number_22 rfl (lv_at hl 0 rfl) ?_
      refine g_get (C := RX4) (T := TX4) (N := 15) hx hb hts hinX4 hown hK hB 0 rfl rfl 4 rfl hq1 rfl rfl dX4_number_23 ?_
      obtain ⟨μ45, hc, hf⟩ := ob1_s hf
      refine g_callVv (As := [.int (-2 : Int32), .int (μ5 4 0)]) (rest := []) ⟨hx, hb, hml, hown, hts⟩ (kX4_report l dC dI cyI cyO ad H.size hc) (cwV 2 hts gX4_number_X4_report rfl rfl rfl (by decide +kernel) ⟨Nat.le_of_ble_eq_true rfl, Nat.le_of_ble_eq_true rfl⟩) hK hB hA (g_recv (ci := 4) hK hB 0 rfl rfl rfl) rfl hl.1 rfl (Nat.le_of_ble_eq_true rfl) dX4_number_26 ⟨Nat.zero_le _, Nat.zero_le _⟩ (fun H locs hB => ?_)
      refine lv_iconst (v := (0 : Int32)) hx hb dX4_number_29 (by decide) ?_
      obtain ⟨e0, e1⟩ := inj2 hf
      subst e0
      subst e1
      exact g_iret hx hb hr hlocks hK hB dX4_number_30
  · have hf := ite_t c3 hf
    refine lv_iconst (v := (0 : Int32)) hx hb dX4_number_7 (by decide) ?_
    obtain ⟨e0, e1⟩ := inj2 hf
    subst e0
    subst e1
    exact g_iret hx hb hr hlocks hK hB dX4_number_8

abbrev rmX4_once : Room := { frames := 1, cells := 0, slots := 0, locals := 22 }

set_option maxHeartbeats 4000000 in
set_option maxRecDepth 100000 in
theorem kX4_once (l : Launch) (dC : Nat → ClassId) (dI : Nat → Nat → Nat) (cyI cyO : ClassId) (ad : Nat → Nat) (sz : Nat) {fu : Nat} {μ : MS} {i1 : Int32} {i2 : Int32} {μ_ : MS} (hf : mX4_once fu μ i1 i2 = some μ_) : Met l yX4_once wsX4_once rmX4_once (PcF (dC, dI) [(cyI, .int), (cyO, .array .int)] (cM cyI cyO ad μ) sz [.ref (ad 0), .int i1, .int i2]) (QvF (dC, dI) [(cyI, .int), (cyO, .array .int)] (cM cyI cyO ad μ) (cM cyI cyO ad μ_) sz) 0 0 (va_A (cM cyI cyO ad μ) sz) := by
  refine Met.ofW (cc := cX4_once) (maxL := 3) (ret := none) (by decide) rfl ?_
  intro p e s m args below meth c s₁ B hml hv
  obtain ⟨rfl, hsz, hP, hK, hD0⟩ := hv
  have hx := B.exec
  have hb := B.bytes
  have hr := B.returns
  have hts := atoms_spec (ws := wsX4_once) B.pre
  have hown : s.vm.findClass RX4 = some m.cls := findClass_of_methodNamed B.named
  have hlocks := B.notSynchronized
  subst hsz
  have hA : ∀ q : Nat, s.heap.size ≤ q → va_A (cM cyI cyO ad μ) s.heap.size q := fun q h => Or.inr h
  have hB : Bd (dC, dI) [(cyI, .int), (cyO, .array .int)] (va_A (cM cyI cyO ad μ) s.heap.size) s (cM cyI cyO ad μ) s.heap [] := ⟨hP, hD0.self, va_S.rf⟩
  have hq1 : (Cond.fieldLink RX4 94 "UndoJourneysModel" "seen" "I").before _ s = true := hts _ (List.mem_of_getElem? (i := 1) rfl)
  have hinX4 : ∀ w ∈ wsX40, w ∈ wsX4_once := fun w h => List.mem_cons_of_mem _ (List.mem_append_right _ h)
  have hl := lv_entry [.ref (ad 0), .int i1, .int i2] (n := 3) (Nat.le_of_ble_eq_true rfl)
  rw [lg_entry_eq]
  generalize (lg_sl [.ref (ad 0), .int i1, .int i2] ++ List.replicate (3 - (lg_sl [.ref (ad 0), .int i1, .int i2]).length) Slot.unset).toArray = ls at hl ⊢
  have hl : lv_has ls 3 [(0, .ref (ad 0)), (1, .int i1), (2, .int i2)] := hl
  clear hP hD0
  suffices main : ∀ (H : Heap) (locs : List Loc), Bd (dC, dI) [(cyI, .int), (cyO, .array .int)] (va_A (cM cyI cyO ad μ) s.heap.size) s (cM cyI cyO ad μ) H locs → W p l e (headSpec wsX4_once rmX4_once).room s m ([.ref (ad 0), .int i1, .int i2] : List Value).toArray below meth c H locs 0 0 (MQ below (QvF (dC, dI) [(cyI, .int), (cyO, .array .int)] (cM cyI cyO ad μ) (cM cyI cyO ad μ_) s.heap.size) ([.ref (ad 0), .int i1, .int i2] : List Value).toArray s 0 0 (va_A (cM cyI cyO ad μ) s.heap.size)) (F0 m 0 ls []) from main _ _ hB
  clear hB
  intro H locs hB
  unfold mX4_once at hf
  refine lv_aload_n hx hb dX4_once_0 rfl (lv_at hl 0 rfl) ?_
  refine g_get (C := RX4) (T := TX4) (N := 15) hx hb hts hinX4 hown hK hB 0 rfl rfl 14 rfl hq1 rfl rfl dX4_once_1 ?_
  refine lv_iload_n hx hb dX4_once_4 rfl (lv_at hl 1 rfl) ?_
  refine lv_ishr hx hb dX4_once_5 ?_
  refine lv_iconst (v := (1 : Int32)) hx hb dX4_once_6 (by decide) ?_
  refine lv_iand hx hb dX4_once_7 ?_
  refine lv_iconst (v := (1 : Int32)) hx hb dX4_once_8 (by decide) ?_
  obtain ⟨μ1, hJ2, hf⟩ := ob1_s hf
  have kJ3 : ∀ (H : Heap) (locs : List Loc) (ls : Array Slot), Bd (dC, dI) [(cyI, .int), (cyO, .array .int)] (va_A (cM cyI cyO ad μ) s.heap.size) s (cM cyI cyO ad μ1) H locs → lv_has ls 3 [(0, .ref (ad 0)), (1, .int i1)] → W p l e (headSpec wsX4_once rmX4_once).room s m ([.ref (ad 0), .int i1, .int i2] : List Value).toArray below meth c H locs 0 0 (MQ below (QvF (dC, dI) [(cyI, .int), (cyO, .array .int)] (cM cyI cyO ad μ) (cM cyI cyO ad μ_) s.heap.size) ([.ref (ad 0), .int i1, .int i2] : List Value).toArray s 0 0 (va_A (cM cyI cyO ad μ) s.heap.size)) (F0 m 19 ls []) := by
    intro H locs ls hB hl
    refine lv_aload_n hx hb dX4_once_19 rfl (lv_at hl 0 rfl) ?_
    refine lv_dup hx hb dX4_once_20 rfl ?_
    refine g_get (C := RX4) (T := TX4) (N := 15) hx hb hts hinX4 hown hK hB 0 rfl rfl 14 rfl hq1 rfl rfl dX4_once_21 ?_
    refine lv_iconst (v := (1 : Int32)) hx hb dX4_once_24 (by decide) ?_
    refine lv_iload_n hx hb dX4_once_25 rfl (lv_at hl 1 rfl) ?_
    refine lv_ishl hx hb dX4_once_26 ?_
    refine lv_ior hx hb dX4_once_27 ?_
    obtain ⟨μ6, e9, hf⟩ := ob1_s hf
    have e9 := inj1 e9
    refine g_put (C := RX4) (T := TX4) (N := 15) hx hb hts hinX4 tyX4 tyX4_ok nmX4 hown hK hB 0 rfl rfl 14 rfl hq1 rfl rfl rfl rfl rfl rfl dX4_once_28 (w2 := (cM cyI cyO ad μ6)) (by rw [← e9]; rfl) (fun H locs hB => ?_)
    have e0 := inj1 hf
    subst e0
    exact g_vret hx hb hr hlocks hK hB dX4_once_31
  refine lv_icmp_ne (tgt := 19) hx hb dX4_once_9 (by decide) (fun c4 => ?_) (fun c4 => ?_)
  · have hJ2 := ite_f c4 hJ2
    have e0 := inj1 hJ2
    subst e0
    exact kJ3 _ _ _ hB (lv_sub hl [0, 1] rfl)
  · have hJ2 := ite_t c4 hJ2
    refine lv_aload_n hx hb dX4_once_12 rfl (lv_at hl 0 rfl) ?_
    refine lv_bipush (v := (-2 : Int32)) hx hb dX4_once_13 (by decide) ?_
    refine lv_iload_n hx hb dX4_once_15 rfl (lv_at hl 2 rfl) ?_
    obtain ⟨μ5, hc, hJ2⟩ := ob1_s hJ2
    refine g_callVv (As := [.int (-2 : Int32), .int i2]) (rest := []) ⟨hx, hb, hml, hown, hts⟩ (kX4_report l dC dI cyI cyO ad H.size hc) (cwV 2 hts gX4_once_X4_report rfl rfl rfl (by decide +kernel) ⟨Nat.le_of_ble_eq_true rfl, Nat.le_of_ble_eq_true rfl⟩) hK hB hA (g_recv (ci := 4) hK hB 0 rfl rfl rfl) rfl hl.1 rfl (Nat.le_of_ble_eq_true rfl) dX4_once_16 ⟨Nat.zero_le _, Nat.zero_le _⟩ (fun H locs hB => ?_)
    have e0 := inj1 hJ2
    subst e0
    exact kJ3 _ _ _ hB (lv_sub hl [0, 1] rfl)

abbrev rmX4_readStock : Room := { frames := 3, cells := 0, slots := 0, locals := 65 }

set_option maxHeartbeats 4000000 in
set_option maxRecDepth 100000 in
theorem kX4_readStock (l : Launch) (dC : Nat → ClassId) (dI : Nat → Nat → Nat) (cyI cyO : ClassId) (ad : Nat → Nat) (sz : Nat) {fu : Nat} {μ : MS} {i1 : Int32} {μ_ : MS} (hf : mX4_readStock fu μ i1 = some μ_) : Met l yX4_readStock wsX4_readStock rmX4_readStock (PcF (dC, dI) [(cyI, .int), (cyO, .array .int)] (cM cyI cyO ad μ) sz [.ref (ad 0), .int i1]) (QvF (dC, dI) [(cyI, .int), (cyO, .array .int)] (cM cyI cyO ad μ) (cM cyI cyO ad μ_) sz) 0 0 (va_A (cM cyI cyO ad μ) sz) := by
  refine Met.ofW (cc := cX4_readStock) (maxL := 4) (ret := none) (by decide) rfl ?_
  intro p e s m args below meth c s₁ B hml hv
  obtain ⟨rfl, hsz, hP, hK, hD0⟩ := hv
  have hx := B.exec
  have hb := B.bytes
  have hr := B.returns
  have hts := atoms_spec (ws := wsX4_readStock) B.pre
  have hown : s.vm.findClass RX4 = some m.cls := findClass_of_methodNamed B.named
  have hlocks := B.notSynchronized
  subst hsz
  have hA : ∀ q : Nat, s.heap.size ≤ q → va_A (cM cyI cyO ad μ) s.heap.size q := fun q h => Or.inr h
  have hB : Bd (dC, dI) [(cyI, .int), (cyO, .array .int)] (va_A (cM cyI cyO ad μ) s.heap.size) s (cM cyI cyO ad μ) s.heap [] := ⟨hP, hD0.self, va_S.rf⟩
  have hq1 : (Cond.fieldLink RX4 20 "UndoJourneysModel" "draft" "[I").before _ s = true := hts _ (List.mem_of_getElem? (i := 1) rfl)
  have hinX4 : ∀ w ∈ wsX40, w ∈ wsX4_readStock := fun w h => List.mem_cons_of_mem _ (List.mem_append_right _ h)
  have hl := lv_entry [.ref (ad 0), .int i1] (n := 4) (Nat.le_of_ble_eq_true rfl)
  rw [lg_entry_eq]
  generalize (lg_sl [.ref (ad 0), .int i1] ++ List.replicate (4 - (lg_sl [.ref (ad 0), .int i1]).length) Slot.unset).toArray = ls at hl ⊢
  have hl : lv_has ls 4 [(0, .ref (ad 0)), (1, .int i1)] := hl
  clear hP hD0
  suffices main : ∀ (H : Heap) (locs : List Loc), Bd (dC, dI) [(cyI, .int), (cyO, .array .int)] (va_A (cM cyI cyO ad μ) s.heap.size) s (cM cyI cyO ad μ) H locs → W p l e (headSpec wsX4_readStock rmX4_readStock).room s m ([.ref (ad 0), .int i1] : List Value).toArray below meth c H locs 0 0 (MQ below (QvF (dC, dI) [(cyI, .int), (cyO, .array .int)] (cM cyI cyO ad μ) (cM cyI cyO ad μ_) s.heap.size) ([.ref (ad 0), .int i1] : List Value).toArray s 0 0 (va_A (cM cyI cyO ad μ) s.heap.size)) (F0 m 0 ls []) from main _ _ hB
  clear hB
  intro H locs hB
  unfold mX4_readStock at hf
  refine lv_aload_n hx hb dX4_readStock_0 rfl (lv_at hl 0 rfl) ?_
  refine g_get (C := RX4) (T := TX4) (N := 15) hx hb hts hinX4 hown hK hB 0 rfl rfl 9 rfl hq1 rfl rfl dX4_readStock_1 ?_
  refine lv_iconst (v := (1 : Int32)) hx hb dX4_readStock_4 (by decide) ?_
  obtain ⟨x1, e9, hf⟩ := ob1_s hf
  refine g_iald hx hb hK hB 3 0 rfl rfl (rd_s e9) dX4_readStock_5 ?_
  refine lv_bipush (v := (6 : Int32)) hx hb dX4_readStock_6 (by decide) ?_
  obtain ⟨μ2, hJ3, hf⟩ := ob1_s hf
  have kJ4 : ∀ (H : Heap) (locs : List Loc) (ls : Array Slot), Bd (dC, dI) [(cyI, .int), (cyO, .array .int)] (va_A (cM cyI cyO ad μ) s.heap.size) s (cM cyI cyO ad μ2) H locs → lv_has ls 4 [(0, .ref (ad 0))] → W p l e (headSpec wsX4_readStock rmX4_readStock).room s m ([.ref (ad 0), .int i1] : List Value).toArray below meth c H locs 0 0 (MQ below (QvF (dC, dI) [(cyI, .int), (cyO, .array .int)] (cM cyI cyO ad μ) (cM cyI cyO ad μ_) s.heap.size) ([.ref (ad 0), .int i1] : List Value).toArray s 0 0 (va_A (cM cyI cyO ad μ) s.heap.size)) (F0 m 18 ls []) := by
    intro H locs ls hB hl
    refine lv_aload_n hx hb dX4_readStock_18 rfl (lv_at hl 0 rfl) ?_
    refine lv_iconst (v := (0 : Int32)) hx hb dX4_readStock_19 (by decide) ?_
    refine lv_sipush (v := (9999 : Int32)) hx hb dX4_readStock_20 (by decide) ?_
    obtain ⟨r7, μ8, hc, hf⟩ := ob2_s hf
    refine g_callVi (As := [.int (0 : Int32), .int (9999 : Int32)]) (rest := []) ⟨hx, hb, hml, hown, hts⟩ (kX4_number l dC dI cyI cyO ad H.size hc) (cwV 2 hts gX4_readStock_X4_number rfl rfl rfl (by decide +kernel) ⟨Nat.le_of_ble_eq_true rfl, Nat.le_of_ble_eq_true rfl⟩) hK hB hA (g_recv (ci := 4) hK hB 0 rfl rfl rfl) rfl hl.1 rfl (Nat.le_of_ble_eq_true rfl) dX4_readStock_23 ⟨Nat.zero_le _, Nat.zero_le _⟩ (fun H locs hB => ?_)
    refine lv_istore_n (lv' := [(2, .int r7), (0, .ref (ad 0))]) hx hb dX4_readStock_26 rfl hl (by decide) rfl (fun ls hl => ?_)
    refine lv_aload_n hx hb dX4_readStock_27 rfl (lv_at hl 1 rfl) ?_
    refine lv_iconst (v := (1 : Int32)) hx hb dX4_readStock_28 (by decide) ?_
    refine lv_bipush (v := (9 : Int32)) hx hb dX4_readStock_29 (by decide) ?_
    obtain ⟨r9, μ10, hc, hf⟩ := ob2_s hf
    refine g_callVi (As := [.int (1 : Int32), .int (9 : Int32)]) (rest := []) ⟨hx, hb, hml, hown, hts⟩ (kX4_number l dC dI cyI cyO ad H.size hc) (cwV 2 hts gX4_readStock_X4_number rfl rfl rfl (by decide +kernel) ⟨Nat.le_of_ble_eq_true rfl, Nat.le_of_ble_eq_true rfl⟩) hK hB hA (g_recv (ci := 4) hK hB 0 rfl rfl rfl) rfl hl.1 rfl (Nat.le_of_ble_eq_true rfl) dX4_readStock_31 ⟨Nat.zero_le _, Nat.zero_le _⟩ (fun H locs hB => ?_)
    refine lv_istore_n (lv' := [(3, .int r9), (2, .int r7), (0, .ref (ad 0))]) hx hb dX4_readStock_34 rfl hl (by decide) rfl (fun ls hl => ?_)
    refine lv_aload_n hx hb dX4_readStock_35 rfl (lv_at hl 2 rfl) ?_
    obtain ⟨r11, hc, hf⟩ := ob1_s hf
    refine g_callVz (As := []) (rest := []) ⟨hx, hb, hml, hown, hts⟩ (kX4_isGood l dC dI cyI cyO ad H.size hc) (cwV 0 hts gX4_readStock_X4_isGood rfl rfl rfl (by decide +kernel) ⟨Nat.le_of_ble_eq_true rfl, Nat.le_of_ble_eq_true rfl⟩) hK hB hA (g_recv (ci := 4) hK hB 0 rfl rfl rfl) rfl hl.1 rfl (Nat.le_of_ble_eq_true rfl) dX4_readStock_36 ⟨Nat.zero_le _, Nat.zero_le _⟩ (fun z12 H locs hB => ?_)
    refine lv_if_ne (tgt := 43) hx hb dX4_readStock_39 (by decide) (fun c13 => ?_) (fun c13 => ?_)
    · have hf := ite_f c13 hf
      refine lv_aload_n hx hb dX4_readStock_43 rfl (lv_at hl 2 rfl) ?_
      refine g_get (C := RX4) (T := TX4) (N := 15) hx hb hts hinX4 hown hK hB 0 rfl rfl 9 rfl hq1 rfl rfl dX4_readStock_44 ?_
      refine lv_bipush (v := (7 : Int32)) hx hb dX4_readStock_47 (by decide) ?_
      refine lv_iconst (v := (2 : Int32)) hx hb dX4_readStock_49 (by decide) ?_
      refine lv_aload_n hx hb dX4_readStock_50 rfl (lv_at hl 2 rfl) ?_
      refine g_get (C := RX4) (T := TX4) (N := 15) hx hb hts hinX4 hown hK hB 0 rfl rfl 9 rfl hq1 rfl rfl dX4_readStock_51 ?_
      refine lv_iconst (v := (1 : Int32)) hx hb dX4_readStock_54 (by decide) ?_
      obtain ⟨x14, e9, hf⟩ := ob1_s hf
      refine g_iald hx hb hK hB 3 0 rfl rfl (rd_s e9) dX4_readStock_55 ?_
      refine lv_imul hx hb dX4_readStock_56 ?_
      refine lv_iadd hx hb dX4_readStock_57 ?_
      refine lv_iconst (v := (0 : Int32)) hx hb dX4_readStock_58 (by decide) ?_
      refine lv_iadd hx hb dX4_readStock_59 ?_
      refine lv_iload_n hx hb dX4_readStock_60 rfl (lv_at hl 1 rfl) ?_
      obtain ⟨μ15, e9, hf⟩ := ob1_s hf
      obtain ⟨hi, e9⟩ := wra_s e9
      refine g_iast hx hb hK hB 3 0 rfl rfl hi rfl dX4_readStock_61 (w2 := (cM cyI cyO ad μ15)) (by rw [← e9]; rfl) (fun H locs hB => ?_)
      refine lv_aload_n hx hb dX4_readStock_62 rfl (lv_at hl 2 rfl) ?_
      refine g_get (C := RX4) (T := TX4) (N := 15) hx hb hts hinX4 hown hK hB 0 rfl rfl 9 rfl hq1 rfl rfl dX4_readStock_63 ?_
      refine lv_bipush (v := (7 : Int32)) hx hb dX4_readStock_66 (by decide) ?_
      refine lv_iconst (v := (2 : Int32)) hx hb dX4_readStock_68 (by decide) ?_
      refine lv_aload_n hx hb dX4_readStock_69 rfl (lv_at hl 2 rfl) ?_
      refine g_get (C := RX4) (T := TX4) (N := 15) hx hb hts hinX4 hown hK hB 0 rfl rfl 9 rfl hq1 rfl rfl dX4_readStock_70 ?_
      refine lv_iconst (v := (1 : Int32)) hx hb dX4_readStock_73 (by decide) ?_
      obtain ⟨x16, e9, hf⟩ := ob1_s hf
      refine g_iald hx hb hK hB 3 0 rfl rfl (rd_s e9) dX4_readStock_74 ?_
      refine lv_imul hx hb dX4_readStock_75 ?_
      refine lv_iadd hx hb dX4_readStock_76 ?_
      refine lv_iconst (v := (1 : Int32)) hx hb dX4_readStock_77 (by decide) ?_
      refine lv_iadd hx hb dX4_readStock_78 ?_
      refine lv_iload_n hx hb dX4_readStock_79 rfl (lv_at hl 0 rfl) ?_
      obtain ⟨μ17, e9, hf⟩ := ob1_s hf
      obtain ⟨hi, e9⟩ := wra_s e9
      refine g_iast hx hb hK hB 3 0 rfl rfl hi rfl dX4_readStock_80 (w2 := (cM cyI cyO ad μ17)) (by rw [← e9]; rfl) (fun H locs hB => ?_)
      refine lv_aload_n hx hb dX4_readStock_81 rfl (lv_at hl 2 rfl) ?_
      refine g_get (C := RX4) (T := TX4) (N := 15) hx hb hts hinX4 hown hK hB 0 rfl rfl 9 rfl hq1 rfl rfl dX4_readStock_82 ?_
      refine lv_iconst (v := (1 : Int32)) hx hb dX4_readStock_85 (by decide) ?_
      refine lv_dup2_11 hx hb dX4_readStock_86 rfl rfl ?_
      obtain ⟨x18, e9, hf⟩ := ob1_s hf
      refine g_iald hx hb hK hB 3 0 rfl rfl (rd_s e9) dX4_readStock_87 ?_
      refine lv_iconst (v := (1 : Int32)) hx hb dX4_readStock_88 (by decide) ?_
      refine lv_iadd hx hb dX4_readStock_89 ?_
      obtain ⟨μ19, e9, hf⟩ := ob1_s hf
      obtain ⟨hi, e9⟩ := wra_s e9
      refine g_iast hx hb hK hB 3 0 rfl rfl hi rfl dX4_readStock_90 (w2 := (cM cyI cyO ad μ19)) (by rw [← e9]; rfl) (fun H locs hB => ?_)
      have e0 := inj1 hf
      subst e0
      exact g_vret hx hb hr hlocks hK hB dX4_readStock_91
    · have hf := ite_t c13 hf
      have e0 := inj1 hf
      subst e0
      exact g_vret hx hb hr hlocks hK hB dX4_readStock_42
  refine lv_icmp_ne (tgt := 18) hx hb dX4_readStock_8 (by decide) (fun c5 => ?_) (fun c5 => ?_)
  · have hJ3 := ite_f c5 hJ3
    have e0 := inj1 hJ3
    subst e0
    exact kJ4 _ _ _ hB (lv_sub hl [0] rfl)
  · have hJ3 := ite_t c5 hJ3
    refine lv_aload_n hx hb dX4_readStock_11 rfl (lv_at hl 0 rfl) ?_
    refine lv_bipush (v := (-4 : Int32)) hx hb dX4_readStock_12 (by decide) ?_
    refine lv_iload_n hx hb dX4_readStock_14 rfl (lv_at hl 1 rfl) ?_
    obtain ⟨μ6, hc, hJ3⟩ := ob1_s hJ3
    refine g_callVv (As := [.int (-4 : Int32), .int i1]) (rest := []) ⟨hx, hb, hml, hown, hts⟩ (kX4_report l dC dI cyI cyO ad H.size hc) (cwV 2 hts gX4_readStock_X4_report rfl rfl rfl (by decide +kernel) ⟨Nat.le_of_ble_eq_true rfl, Nat.le_of_ble_eq_true rfl⟩) hK hB hA (g_recv (ci := 4) hK hB 0 rfl rfl rfl) rfl hl.1 rfl (Nat.le_of_ble_eq_true rfl) dX4_readStock_15 ⟨Nat.zero_le _, Nat.zero_le _⟩ (fun H locs hB => ?_)
    have e0 := inj1 hJ3
    subst e0
    exact kJ4 _ _ _ hB (lv_sub hl [0] rfl)

