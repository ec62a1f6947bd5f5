abbrev rmX4_writeOff : Room := { frames := 5, cells := 0, slots := 0, locals := 108 }

set_option maxHeartbeats 4000000 in
set_option maxRecDepth 100000 in
theorem kX4_writeOff (l : Launch) (dC : Nat → ClassId) (dI : Nat → Nat → Nat) (cyI cyO : ClassId) (ad : Nat → Nat) (sz : Nat) {fu : Nat} {μ : MS} {i1 : Int32} {r : Int32} {μ_ : MS} (hf : mX4_writeOff fu μ i1 = some (r, μ_)) : Met l yX4_writeOff wsX4_writeOff rmX4_writeOff (PcF (dC, dI) [(cyI, .int), (cyO, .array .int)] (cM cyI cyO ad μ) sz [.ref (ad 0), .int i1]) (QiF (dC, dI) [(cyI, .int), (cyO, .array .int)] (cM cyI cyO ad μ) (cM cyI cyO ad μ_) sz r) 0 0 (va_A (cM cyI cyO ad μ) sz) := by
  refine Met.ofW (cc := cX4_writeOff) (maxL := 3) (ret := (some .int)) (by decide) rfl ?_
  intro p e s m args below meth c s₁ B hml hv
  obtain ⟨rfl, hsz, hP, hK, hD0⟩ := hv
  have hx := B.exec
  have hb := B.bytes
  have hr := B.returns
  have hts := atoms_spec (ws := wsX4_writeOff) B.pre
  have hown : s.vm.findClass RX4 = some m.cls := findClass_of_methodNamed B.named
  have hlocks := B.notSynchronized
  subst hsz
  have hA : ∀ q : Nat, s.heap.size ≤ q → va_A (cM cyI cyO ad μ) s.heap.size q := fun q h => Or.inr h
  have hB : Bd (dC, dI) [(cyI, .int), (cyO, .array .int)] (va_A (cM cyI cyO ad μ) s.heap.size) s (cM cyI cyO ad μ) s.heap [] := ⟨hP, hD0.self, va_S.rf⟩
  have hq1 : (Cond.fieldLink RX4 35 "UndoJourneysModel" "thrown" "I").before _ s = true := hts _ (List.mem_of_getElem? (i := 1) rfl)
  have hq2 : (Cond.fieldLink RX4 17 "UndoJourneysModel" "data" "[I").before _ s = true := hts _ (List.mem_of_getElem? (i := 2) rfl)
  have hinX4 : ∀ w ∈ wsX40, w ∈ wsX4_writeOff := fun w h => List.mem_cons_of_mem _ (List.mem_append_right _ h)
  have hl := lv_entry [.ref (ad 0), .int i1] (n := 3) (Nat.le_of_ble_eq_true rfl)
  rw [lg_entry_eq]
  generalize (lg_sl [.ref (ad 0), .int i1] ++ List.replicate (3 - (lg_sl [.ref (ad 0), .int i1]).length) Slot.unset).toArray = ls at hl ⊢
  have hl : lv_has ls 3 [(0, .ref (ad 0)), (1, .int i1)] := hl
  clear hP hD0
  suffices main : ∀ (H : Heap) (locs : List Loc), Bd (dC, dI) [(cyI, .int), (cyO, .array .int)] (va_A (cM cyI cyO ad μ) s.heap.size) s (cM cyI cyO ad μ) H locs → W p l e (headSpec wsX4_writeOff rmX4_writeOff).room s m ([.ref (ad 0), .int i1] : List Value).toArray below meth c H locs 0 0 (MQ below (QiF (dC, dI) [(cyI, .int), (cyO, .array .int)] (cM cyI cyO ad μ) (cM cyI cyO ad μ_) s.heap.size r) ([.ref (ad 0), .int i1] : List Value).toArray s 0 0 (va_A (cM cyI cyO ad μ) s.heap.size)) (F0 m 0 ls []) from main _ _ hB
  clear hB
  intro H locs hB
  unfold mX4_writeOff at hf
  refine lv_aload_n hx hb dX4_writeOff_0 rfl (lv_at hl 0 rfl) ?_
  refine lv_iconst (v := (0 : Int32)) hx hb dX4_writeOff_1 (by decide) ?_
  obtain ⟨μ1, e9, hf⟩ := ob1_s hf
  have e9 := inj1 e9
  refine g_put (C := RX4) (T := TX4) (N := 15) hx hb hts hinX4 tyX4 tyX4_ok nmX4 hown hK hB 0 rfl rfl 0 rfl hq1 rfl rfl rfl rfl rfl rfl dX4_writeOff_2 (w2 := (cM cyI cyO ad μ1)) (by rw [← e9]; rfl) (fun H locs hB => ?_)
  refine lv_aload_n hx hb dX4_writeOff_5 rfl (lv_at hl 0 rfl) ?_
  refine lv_iload_n hx hb dX4_writeOff_6 rfl (lv_at hl 1 rfl) ?_
  obtain ⟨r2, μ3, hc, hf⟩ := ob2_s hf
  refine g_callVz (As := [.int i1]) (rest := []) ⟨hx, hb, hml, hown, hts⟩ (kX4_notParked l dC dI cyI cyO ad H.size hc) (cwV 1 hts gX4_writeOff_X4_notParked rfl rfl rfl (by decide +kernel) ⟨Nat.le_of_ble_eq_true rfl, Nat.le_of_ble_eq_true rfl⟩) hK hB hA (g_recv (ci := 4) hK hB 0 rfl rfl rfl) rfl hl.1 rfl (Nat.le_of_ble_eq_true rfl) dX4_writeOff_7 ⟨Nat.zero_le _, Nat.zero_le _⟩ (fun z4 H locs hB => ?_)
  refine lv_if_eq (tgt := 15) hx hb dX4_writeOff_10 (by decide) (fun c5 => ?_) (fun c5 => ?_)
  · have hf := ite_t c5 hf
    refine lv_aload_n hx hb dX4_writeOff_15 rfl (lv_at hl 0 rfl) ?_
    obtain ⟨μ6, hc, hf⟩ := ob1_s hf
    refine g_callVv (As := []) (rest := []) ⟨hx, hb, hml, hown, hts⟩ (kX4_remember l dC dI cyI cyO ad H.size hc) (cwV 0 hts gX4_writeOff_X4_remember rfl rfl rfl (by decide +kernel) ⟨Nat.le_of_ble_eq_true rfl, Nat.le_of_ble_eq_true rfl⟩) hK hB hA (g_recv (ci := 4) hK hB 0 rfl rfl rfl) rfl hl.1 rfl (Nat.le_of_ble_eq_true rfl) dX4_writeOff_16 ⟨Nat.zero_le _, Nat.zero_le _⟩ (fun H locs hB => ?_)
    refine lv_aload_n hx hb dX4_writeOff_19 rfl (lv_at hl 0 rfl) ?_
    refine lv_iload_n hx hb dX4_writeOff_20 rfl (lv_at hl 1 rfl) ?_
    obtain ⟨r7, hc, hf⟩ := ob1_s hf
    refine g_callVi (As := [.int i1]) (rest := []) ⟨hx, hb, hml, hown, hts⟩ (kX4_lastDone l dC dI cyI cyO ad H.size hc) (cwV 1 hts gX4_writeOff_X4_lastDone rfl rfl rfl (by decide +kernel) ⟨Nat.le_of_ble_eq_true rfl, Nat.le_of_ble_eq_true rfl⟩) hK hB hA (g_recv (ci := 4) hK hB 0 rfl rfl rfl) rfl hl.1 rfl (Nat.le_of_ble_eq_true rfl) dX4_writeOff_21 ⟨Nat.zero_le _, Nat.zero_le _⟩ (fun H locs hB => ?_)
    refine lv_istore_n (lv' := [(2, .int r7), (0, .ref (ad 0)), (1, .int i1)]) hx hb dX4_writeOff_24 rfl hl (by decide) rfl (fun ls hl => ?_)
    refine lv_aload_n hx hb dX4_writeOff_25 rfl (lv_at hl 1 rfl) ?_
    refine g_get (C := RX4) (T := TX4) (N := 15) hx hb hts hinX4 hown hK hB 0 rfl rfl 8 rfl hq2 rfl rfl dX4_writeOff_26 ?_
    refine lv_aload_n hx hb dX4_writeOff_29 rfl (lv_at hl 1 rfl) ?_
    refine lv_iload_n hx hb dX4_writeOff_30 rfl (lv_at hl 2 rfl) ?_
    refine lv_iload_n hx hb dX4_writeOff_31 rfl (lv_at hl 0 rfl) ?_
    obtain ⟨r8, hc, hf⟩ := ob1_s hf
    refine g_callVi (As := [.int i1, .int r7]) (rest := [.ref (ad 8)]) ⟨hx, hb, hml, hown, hts⟩ (kX4_stepAt l dC dI cyI cyO ad H.size hc) (cwV 2 hts gX4_writeOff_X4_stepAt rfl rfl rfl (by decide +kernel) ⟨Nat.le_of_ble_eq_true rfl, Nat.le_of_ble_eq_true rfl⟩) hK hB hA (g_recv (ci := 4) hK hB 0 rfl rfl rfl) rfl hl.1 rfl (Nat.le_of_ble_eq_true rfl) dX4_writeOff_32 ⟨Nat.zero_le _, Nat.zero_le _⟩ (fun H locs hB => ?_)
    refine lv_iconst (v := (4 : Int32)) hx hb dX4_writeOff_35 (by decide) ?_
    refine lv_iadd hx hb dX4_writeOff_36 ?_
    refine lv_bipush (v := (6 : Int32)) hx hb dX4_writeOff_37 (by decide) ?_
    obtain ⟨μ9, e9, hf⟩ := ob1_s hf
    obtain ⟨hi, e9⟩ := wra_s e9
    refine g_iast hx hb hK hB 2 0 rfl rfl hi rfl dX4_writeOff_39 (w2 := (cM cyI cyO ad μ9)) (by rw [← e9]; rfl) (fun H locs hB => ?_)
    refine lv_aload_n hx hb dX4_writeOff_40 rfl (lv_at hl 1 rfl) ?_
    refine lv_iload_n hx hb dX4_writeOff_41 rfl (lv_at hl 2 rfl) ?_
    obtain ⟨μ10, hc, hf⟩ := ob1_s hf
    refine g_callVv (As := [.int i1]) (rest := []) ⟨hx, hb, hml, hown, hts⟩ (kX4_beUndoing l dC dI cyI cyO ad H.size hc) (cwV 1 hts gX4_writeOff_X4_beUndoing rfl rfl rfl (by decide +kernel) ⟨Nat.le_of_ble_eq_true rfl, Nat.le_of_ble_eq_true rfl⟩) hK hB hA (g_recv (ci := 4) hK hB 0 rfl rfl rfl) rfl hl.1 rfl (Nat.le_of_ble_eq_true rfl) dX4_writeOff_42 ⟨Nat.zero_le _, Nat.zero_le _⟩ (fun H locs hB => ?_)
    refine lv_iload_n hx hb dX4_writeOff_45 rfl (lv_at hl 0 rfl) ?_
    obtain ⟨e0, e1⟩ := inj2 hf
    subst e0
    subst e1
    exact g_iret hx hb hr hlocks hK hB dX4_writeOff_46
  · have hf := ite_f c5 hf
    refine lv_iconst (v := (0 : Int32)) hx hb dX4_writeOff_13 (by decide) ?_
    obtain ⟨e0, e1⟩ := inj2 hf
    subst e0
    subst e1
    exact g_iret hx hb hr hlocks hK hB dX4_writeOff_14

abbrev rmX4_goForward : Room := { frames := 6, cells := 0, slots := 0, locals := 131 }

set_option maxHeartbeats 4000000 in
set_option maxRecDepth 100000 in
theorem kX4_goForward (l : Launch) (dC : Nat → ClassId) (dI : Nat → Nat → Nat) (cyI cyO : ClassId) (ad : Nat → Nat) (sz : Nat) {fu : Nat} {μ : MS} {i1 : Int32} {r : Int32} {μ_ : MS} (hf : mX4_goForward fu μ i1 = some (r, μ_)) : Met l yX4_goForward wsX4_goForward rmX4_goForward (PcF (dC, dI) [(cyI, .int), (cyO, .array .int)] (cM cyI cyO ad μ) sz [.ref (ad 0), .int i1]) (QiF (dC, dI) [(cyI, .int), (cyO, .array .int)] (cM cyI cyO ad μ) (cM cyI cyO ad μ_) sz r) 0 0 (va_A (cM cyI cyO ad μ) sz) := by
  refine Met.ofW (cc := cX4_goForward) (maxL := 5) (ret := (some .int)) (by decide) rfl ?_
  intro p e s m args below meth c s₁ B hml hv
  obtain ⟨rfl, hsz, hP, hK, hD0⟩ := hv
  have hx := B.exec
  have hb := B.bytes
  have hr := B.returns
  have hts := atoms_spec (ws := wsX4_goForward) B.pre
  have hown : s.vm.findClass RX4 = some m.cls := findClass_of_methodNamed B.named
  have hlocks := B.notSynchronized
  subst hsz
  have hA : ∀ q : Nat, s.heap.size ≤ q → va_A (cM cyI cyO ad μ) s.heap.size q := fun q h => Or.inr h
  have hB : Bd (dC, dI) [(cyI, .int), (cyO, .array .int)] (va_A (cM cyI cyO ad μ) s.heap.size) s (cM cyI cyO ad μ) s.heap [] := ⟨hP, hD0.self, va_S.rf⟩
  have hq1 : (Cond.fieldLink RX4 35 "UndoJourneysModel" "thrown" "I").before _ s = true := hts _ (List.mem_of_getElem? (i := 1) rfl)
  have hq2 : (Cond.fieldLink RX4 17 "UndoJourneysModel" "data" "[I").before _ s = true := hts _ (List.mem_of_getElem? (i := 2) rfl)
  have hinX4 : ∀ w ∈ wsX40, w ∈ wsX4_goForward := fun w h => List.mem_cons_of_mem _ (List.mem_append_right _ h)
  have hl := lv_entry [.ref (ad 0), .int i1] (n := 5) (Nat.le_of_ble_eq_true rfl)
  rw [lg_entry_eq]
  generalize (lg_sl [.ref (ad 0), .int i1] ++ List.replicate (5 - (lg_sl [.ref (ad 0), .int i1]).length) Slot.unset).toArray = ls at hl ⊢
  have hl : lv_has ls 5 [(0, .ref (ad 0)), (1, .int i1)] := hl
  clear hP hD0
  suffices main : ∀ (H : Heap) (locs : List Loc), Bd (dC, dI) [(cyI, .int), (cyO, .array .int)] (va_A (cM cyI cyO ad μ) s.heap.size) s (cM cyI cyO ad μ) H locs → W p l e (headSpec wsX4_goForward rmX4_goForward).room s m ([.ref (ad 0), .int i1] : List Value).toArray below meth c H locs 0 0 (MQ below (QiF (dC, dI) [(cyI, .int), (cyO, .array .int)] (cM cyI cyO ad μ) (cM cyI cyO ad μ_) s.heap.size r) ([.ref (ad 0), .int i1] : List Value).toArray s 0 0 (va_A (cM cyI cyO ad μ) s.heap.size)) (F0 m 0 ls []) from main _ _ hB
  clear hB
  intro H locs hB
  unfold mX4_goForward at hf
  refine lv_aload_n hx hb dX4_goForward_0 rfl (lv_at hl 0 rfl) ?_
  refine lv_iconst (v := (0 : Int32)) hx hb dX4_goForward_1 (by decide) ?_
  obtain ⟨μ1, e9, hf⟩ := ob1_s hf
  have e9 := inj1 e9
  refine g_put (C := RX4) (T := TX4) (N := 15) hx hb hts hinX4 tyX4 tyX4_ok nmX4 hown hK hB 0 rfl rfl 0 rfl hq1 rfl rfl rfl rfl rfl rfl dX4_goForward_2 (w2 := (cM cyI cyO ad μ1)) (by rw [← e9]; rfl) (fun H locs hB => ?_)
  refine lv_aload_n hx hb dX4_goForward_5 rfl (lv_at hl 0 rfl) ?_
  refine lv_iload_n hx hb dX4_goForward_6 rfl (lv_at hl 1 rfl) ?_
  obtain ⟨r2, μ3, hc, hf⟩ := ob2_s hf
  refine g_callVz (As := [.int i1]) (rest := []) ⟨hx, hb, hml, hown, hts⟩ (kX4_notParked l dC dI cyI cyO ad H.size hc) (cwV 1 hts gX4_goForward_X4_notParked rfl rfl rfl (by decide +kernel) ⟨Nat.le_of_ble_eq_true rfl, Nat.le_of_ble_eq_true rfl⟩) hK hB hA (g_recv (ci := 4) hK hB 0 rfl rfl rfl) rfl hl.1 rfl (Nat.le_of_ble_eq_true rfl) dX4_goForward_7 ⟨Nat.zero_le _, Nat.zero_le _⟩ (fun z4 H locs hB => ?_)
  refine lv_if_eq (tgt := 15) hx hb dX4_goForward_10 (by decide) (fun c5 => ?_) (fun c5 => ?_)
  · have hf := ite_t c5 hf
    refine lv_aload_n hx hb dX4_goForward_15 rfl (lv_at hl 0 rfl) ?_
    obtain ⟨μ6, hc, hf⟩ := ob1_s hf
    refine g_callVv (As := []) (rest := []) ⟨hx, hb, hml, hown, hts⟩ (kX4_remember l dC dI cyI cyO ad H.size hc) (cwV 0 hts gX4_goForward_X4_remember rfl rfl rfl (by decide +kernel) ⟨Nat.le_of_ble_eq_true rfl, Nat.le_of_ble_eq_true rfl⟩) hK hB hA (g_recv (ci := 4) hK hB 0 rfl rfl rfl) rfl hl.1 rfl (Nat.le_of_ble_eq_true rfl) dX4_goForward_16 ⟨Nat.zero_le _, Nat.zero_le _⟩ (fun H locs hB => ?_)
    refine lv_iconst (v := (0 : Int32)) hx hb dX4_goForward_19 (by decide) ?_
    refine lv_istore_n (lv' := [(2, .int (0 : Int32)), (0, .ref (ad 0)), (1, .int i1)]) hx hb dX4_goForward_20 rfl hl (by decide) rfl (fun ls hl => ?_)
    obtain ⟨v17, hL20, hf⟩ := ob1_s hf
    have kE18 : ∀ (H : Heap) (locs : List Loc) (ls : Array Slot), Bd (dC, dI) [(cyI, .int), (cyO, .array .int)] (va_A (cM cyI cyO ad μ) s.heap.size) s (cM cyI cyO ad μ6) H locs → lv_has ls 5 [(2, .int v17), (0, .ref (ad 0)), (1, .int i1)] → W p l e (headSpec wsX4_goForward rmX4_goForward).room s m ([.ref (ad 0), .int i1] : List Value).toArray below meth c H locs 0 0 (MQ below (QiF (dC, dI) [(cyI, .int), (cyO, .array .int)] (cM cyI cyO ad μ) (cM cyI cyO ad μ_) s.heap.size r) ([.ref (ad 0), .int i1] : List Value).toArray s 0 0 (va_A (cM cyI cyO ad μ) s.heap.size)) (F0 m 46 ls []) := by
      intro H locs ls hB hl
      refine lv_iload_n hx hb dX4_goForward_46 rfl (lv_at hl 0 rfl) ?_
      refine lv_aload_n hx hb dX4_goForward_47 rfl (lv_at hl 1 rfl) ?_
      refine lv_iload_n hx hb dX4_goForward_48 rfl (lv_at hl 2 rfl) ?_
      refine lv_iconst (v := (2 : Int32)) hx hb dX4_goForward_49 (by decide) ?_
      obtain ⟨r22, hc, hf⟩ := ob1_s hf
      refine g_callVi (As := [.int i1, .int (2 : Int32)]) (rest := [.int v17]) ⟨hx, hb, hml, hown, hts⟩ (kX4_ofJourney l dC dI cyI cyO ad H.size hc) (cwV 2 hts gX4_goForward_X4_ofJourney rfl rfl rfl (by decide +kernel) ⟨Nat.le_of_ble_eq_true rfl, Nat.le_of_ble_eq_true rfl⟩) hK hB hA (g_recv (ci := 4) hK hB 0 rfl rfl rfl) rfl hl.1 rfl (Nat.le_of_ble_eq_true rfl) dX4_goForward_50 ⟨Nat.zero_le _, Nat.zero_le _⟩ (fun H locs hB => ?_)
      refine lv_icmp_ne (tgt := 58) hx hb dX4_goForward_53 (by decide) (fun c23 => ?_) (fun c23 => ?_)
      · have hf := ite_f c23 hf
        refine lv_iconst (v := (0 : Int32)) hx hb dX4_goForward_58 (by decide) ?_
        refine lv_istore_n (lv' := [(3, .int (0 : Int32)), (2, .int v17), (0, .ref (ad 0)), (1, .int i1)]) hx hb dX4_goForward_59 rfl hl (by decide) rfl (fun ls hl => ?_)
        obtain ⟨μ42, hL45, hf⟩ := ob1_s hf
        have kE43 : ∀ (H : Heap) (locs : List Loc) (ls : Array Slot), Bd (dC, dI) [(cyI, .int), (cyO, .array .int)] (va_A (cM cyI cyO ad μ) s.heap.size) s (cM cyI cyO ad μ42) H locs → lv_has ls 5 [(2, .int v17), (0, .ref (ad 0)), (1, .int i1)] → W p l e (headSpec wsX4_goForward rmX4_goForward).room s m ([.ref (ad 0), .int i1] : List Value).toArray below meth c H locs 0 0 (MQ below (QiF (dC, dI) [(cyI, .int), (cyO, .array .int)] (cM cyI cyO ad μ) (cM cyI cyO ad μ_) s.heap.size r) ([.ref (ad 0), .int i1] : List Value).toArray s 0 0 (va_A (cM cyI cyO ad μ) s.heap.size)) (F0 m 139 ls []) := by
          intro H locs ls hB hl
          refine lv_aload_n hx hb dX4_goForward_139 rfl (lv_at hl 1 rfl) ?_
          refine g_get (C := RX4) (T := TX4) (N := 15) hx hb hts hinX4 hown hK hB 0 rfl rfl 8 rfl hq2 rfl rfl dX4_goForward_140 ?_
          refine lv_iload_n hx hb dX4_goForward_143 rfl (lv_at hl 2 rfl) ?_
          obtain ⟨r47, hc, hf⟩ := ob1_s hf
          refine g_pcutSi (As := [.int i1]) (rest := [.ref (ad 8)]) (w2 := (cM cyI cyO ad μ42)) ⟨hx, hb, hml, hown, hts⟩ (kX4_journeyAt l dC dI [(cyI, .int), (cyO, .array .int)] H.size hc) (va_cwS 1 hts gX4_goForward_X4_journeyAt rfl rfl rfl (by decide +kernel) ⟨Nat.le_of_ble_eq_true rfl, Nat.le_of_ble_eq_true rfl⟩) hK hB hA (List.Perm.refl _) (List.Perm.refl _) rfl hl.1 rfl (Nat.le_of_ble_eq_true rfl) dX4_goForward_144 ⟨Nat.zero_le _, Nat.zero_le _⟩ (fun H locs hB => ?_)
          refine lv_iconst (v := (0 : Int32)) hx hb dX4_goForward_147 (by decide) ?_
          refine lv_iadd hx hb dX4_goForward_148 ?_
          refine lv_iconst (v := (1 : Int32)) hx hb dX4_goForward_149 (by decide) ?_
          obtain ⟨μ48, e9, hf⟩ := ob1_s hf
          obtain ⟨hi, e9⟩ := wra_s e9
          refine g_iast hx hb hK hB 2 0 rfl rfl hi rfl dX4_goForward_150 (w2 := (cM cyI cyO ad μ48)) (by rw [← e9]; rfl) (fun H locs hB => ?_)
          refine lv_aload_n hx hb dX4_goForward_151 rfl (lv_at hl 1 rfl) ?_
          refine g_get (C := RX4) (T := TX4) (N := 15) hx hb hts hinX4 hown hK hB 0 rfl rfl 8 rfl hq2 rfl rfl dX4_goForward_152 ?_
          refine lv_iload_n hx hb dX4_goForward_155 rfl (lv_at hl 2 rfl) ?_
          obtain ⟨r49, hc, hf⟩ := ob1_s hf
          refine g_pcutSi (As := [.int i1]) (rest := [.ref (ad 8)]) (w2 := (cM cyI cyO ad μ48)) ⟨hx, hb, hml, hown, hts⟩ (kX4_journeyAt l dC dI [(cyI, .int), (cyO, .array .int)] H.size hc) (va_cwS 1 hts gX4_goForward_X4_journeyAt rfl rfl rfl (by decide +kernel) ⟨Nat.le_of_ble_eq_true rfl, Nat.le_of_ble_eq_true rfl⟩) hK hB hA (List.Perm.refl _) (List.Perm.refl _) rfl hl.1 rfl (Nat.le_of_ble_eq_true rfl) dX4_goForward_156 ⟨Nat.zero_le _, Nat.zero_le _⟩ (fun H locs hB => ?_)
          refine lv_iconst (v := (5 : Int32)) hx hb dX4_goForward_159 (by decide) ?_
          refine lv_iadd hx hb dX4_goForward_160 ?_
          refine lv_iconst (v := (-1 : Int32)) hx hb dX4_goForward_161 (by decide) ?_
          obtain ⟨μ50, e9, hf⟩ := ob1_s hf
          obtain ⟨hi, e9⟩ := wra_s e9
          refine g_iast hx hb hK hB 2 0 rfl rfl hi rfl dX4_goForward_162 (w2 := (cM cyI cyO ad μ50)) (by rw [← e9]; rfl) (fun H locs hB => ?_)
          refine lv_aload_n hx hb dX4_goForward_163 rfl (lv_at hl 1 rfl) ?_
          refine lv_iload_n hx hb dX4_goForward_164 rfl (lv_at hl 2 rfl) ?_
          refine lv_iload_n hx hb dX4_goForward_165 rfl (lv_at hl 0 rfl) ?_
          obtain ⟨μ51, hc, hf⟩ := ob1_s hf
          refine g_callVv (As := [.int i1, .int v17]) (rest := []) ⟨hx, hb, hml, hown, hts⟩ (kX4_present l dC dI cyI cyO ad H.size hc) (cwV 2 hts gX4_goForward_X4_present rfl rfl rfl (by decide +kernel) ⟨Nat.le_of_ble_eq_true rfl, Nat.le_of_ble_eq_true rfl⟩) hK hB hA (g_recv (ci := 4) hK hB 0 rfl rfl rfl) rfl hl.1 rfl (Nat.le_of_ble_eq_true rfl) dX4_goForward_166 ⟨Nat.zero_le _, Nat.zero_le _⟩ (fun H locs hB => ?_)
          refine lv_iload_n hx hb dX4_goForward_169 rfl (lv_at hl 0 rfl) ?_
          obtain ⟨e0, e1⟩ := inj2 hf
          subst e0
          subst e1
          exact g_iret hx hb hr hlocks hK hB dX4_goForward_170
        have key44 : ∀ (n9 : Nat) (v53 : Int32) (μ54 : MS) (H : Heap) (locs : List Loc) (ls : Array Slot), loopM (fun st => mX4_goForward_L60 fu v17 i1 st.1 st.2) n9 (v53, μ54) = some μ42 → Bd (dC, dI) [(cyI, .int), (cyO, .array .int)] (va_A (cM cyI cyO ad μ) s.heap.size) s (cM cyI cyO ad μ54) H locs → lv_has ls 5 [(3, .int v53), (2, .int v17), (0, .ref (ad 0)), (1, .int i1)] → W p l e (headSpec wsX4_goForward rmX4_goForward).room s m ([.ref (ad 0), .int i1] : List Value).toArray below meth c H locs 0 0 (MQ below (QiF (dC, dI) [(cyI, .int), (cyO, .array .int)] (cM cyI cyO ad μ) (cM cyI cyO ad μ_) s.heap.size r) ([.ref (ad 0), .int i1] : List Value).toArray s 0 0 (va_A (cM cyI cyO ad μ) s.heap.size)) (F0 m 60 ls []) := by
          intro n9
          induction n9 with
          | zero => intro v53 μ54 H locs ls hL45; exact (loopM_z hL45).elim
          | succ n9 ih9 =>
            intro v53 μ54 H locs ls hL45 hB hl
            obtain ⟨o55, hg46, hL45⟩ := loopM_s hL45
            have hg46 : mX4_goForward_L60 fu v17 i1 v53 μ54 = some o55 := hg46
            unfold mX4_goForward_L60 at hg46
            refine lv_iload_n hx hb dX4_goForward_60 rfl (lv_at hl 0 rfl) ?_
            refine lv_aload_n hx hb dX4_goForward_61 rfl (lv_at hl 2 rfl) ?_
            refine lv_iload_n hx hb dX4_goForward_62 rfl (lv_at hl 3 rfl) ?_
            refine lv_iconst (v := (3 : Int32)) hx hb dX4_goForward_63 (by decide) ?_
            obtain ⟨r56, hc, hg46⟩ := ob1_s hg46
            refine g_callVi (As := [.int i1, .int (3 : Int32)]) (rest := [.int v53]) ⟨hx, hb, hml, hown, hts⟩ (kX4_ofJourney l dC dI cyI cyO ad H.size hc) (cwV 2 hts gX4_goForward_X4_ofJourney rfl rfl rfl (by decide +kernel) ⟨Nat.le_of_ble_eq_true rfl, Nat.le_of_ble_eq_true rfl⟩) hK hB hA (g_recv (ci := 4) hK hB 0 rfl rfl rfl) rfl hl.1 rfl (Nat.le_of_ble_eq_true rfl) dX4_goForward_64 ⟨Nat.zero_le _, Nat.zero_le _⟩ (fun H locs hB => ?_)
            refine lv_icmp_ge (tgt := 139) hx hb dX4_goForward_67 (by decide) (fun c57 => ?_) (fun c57 => ?_)
            · have hg46 := ite_t c57 hg46
              have hL45 := el1_l (inj1 hg46) hL45
              have e0 := inj1 hL45
              subst e0
              exact kE43 _ _ _ hB (lv_sub hl [1, 2, 3] rfl)
            · have hg46 := ite_f c57 hg46
              refine lv_aload_n hx hb dX4_goForward_70 rfl (lv_at hl 2 rfl) ?_
              refine lv_iload_n hx hb dX4_goForward_71 rfl (lv_at hl 3 rfl) ?_
              refine lv_iload_n hx hb dX4_goForward_72 rfl (lv_at hl 0 rfl) ?_
              obtain ⟨r58, hc, hg46⟩ := ob1_s hg46
              refine g_callVi (As := [.int i1, .int v53]) (rest := []) ⟨hx, hb, hml, hown, hts⟩ (kX4_stepAt l dC dI cyI cyO ad H.size hc) (cwV 2 hts gX4_goForward_X4_stepAt rfl rfl rfl (by decide +kernel) ⟨Nat.le_of_ble_eq_true rfl, Nat.le_of_ble_eq_true rfl⟩) hK hB hA (g_recv (ci := 4) hK hB 0 rfl rfl rfl) rfl hl.1 rfl (Nat.le_of_ble_eq_true rfl) dX4_goForward_73 ⟨Nat.zero_le _, Nat.zero_le _⟩ (fun H locs hB => ?_)
              refine lv_istore (lv' := [(4, .int r58), (3, .int v53), (2, .int v17), (0, .ref (ad 0)), (1, .int i1)]) hx hb dX4_goForward_76 hl (by decide) rfl (fun ls hl => ?_)
              refine lv_aload_n hx hb dX4_goForward_78 rfl (lv_at hl 3 rfl) ?_
              refine lv_iload_n hx hb dX4_goForward_79 rfl (lv_at hl 4 rfl) ?_
              refine lv_iload_n hx hb dX4_goForward_80 rfl (lv_at hl 1 rfl) ?_
              obtain ⟨r59, hc, hg46⟩ := ob1_s hg46
              refine g_callVz (As := [.int i1, .int v53]) (rest := []) ⟨hx, hb, hml, hown, hts⟩ (kX4_isSettled l dC dI cyI cyO ad H.size hc) (cwV 2 hts gX4_goForward_X4_isSettled rfl rfl rfl (by decide +kernel) ⟨Nat.le_of_ble_eq_true rfl, Nat.le_of_ble_eq_true rfl⟩) hK hB hA (g_recv (ci := 4) hK hB 0 rfl rfl rfl) rfl hl.1 rfl (Nat.le_of_ble_eq_true rfl) dX4_goForward_81 ⟨Nat.zero_le _, Nat.zero_le _⟩ (fun z60 H locs hB => ?_)
              obtain ⟨μ61, hJ62, hg46⟩ := ob1_s hg46
              have kJ63 : ∀ (H : Heap) (locs : List Loc) (ls : Array Slot), Bd (dC, dI) [(cyI, .int), (cyO, .array .int)] (va_A (cM cyI cyO ad μ) s.heap.size) s (cM cyI cyO ad μ61) H locs → lv_has ls 5 [(3, .int v53), (2, .int v17), (0, .ref (ad 0)), (1, .int i1)] → W p l e (headSpec wsX4_goForward rmX4_goForward).room s m ([.ref (ad 0), .int i1] : List Value).toArray below meth c H locs 0 0 (MQ below (QiF (dC, dI) [(cyI, .int), (cyO, .array .int)] (cM cyI cyO ad μ) (cM cyI cyO ad μ_) s.heap.size r) ([.ref (ad 0), .int i1] : List Value).toArray s 0 0 (va_A (cM cyI cyO ad μ) s.heap.size)) (F0 m 133 ls []) := by
                intro H locs ls hB hl
                refine lv_iinc (v := (v53 + (1 : Int32))) (lv' := [(3, .int (v53 + (1 : Int32))), (2, .int v17), (0, .ref (ad 0)), (1, .int i1)]) hx hb dX4_goForward_133 hl (k := 0) rfl rfl (by decide) rfl (fun ls hl => ?_)
                refine lv_goto (tgt := 60) hx hb dX4_goForward_136 (by decide) ?_
                have hL45 := el1_r (inj1 hg46) hL45
                exact ih9 _ _ _ _ _ hL45 hB (lv_sub hl [0, 1, 2, 3] rfl)
              refine lv_if_ne (tgt := 133) hx hb dX4_goForward_84 (by decide) (fun c64 => ?_) (fun c64 => ?_)
              · have hJ62 := ite_f c64 hJ62
                have e0 := inj1 hJ62
                subst e0
                exact kJ63 _ _ _ hB (lv_sub hl [1, 2, 3, 4] rfl)
              · have hJ62 := ite_t c64 hJ62
                refine lv_aload_n hx hb dX4_goForward_87 rfl (lv_at hl 3 rfl) ?_
                refine g_get (C := RX4) (T := TX4) (N := 15) hx hb hts hinX4 hown hK hB 0 rfl rfl 8 rfl hq2 rfl rfl dX4_goForward_88 ?_
                refine lv_iload hx hb dX4_goForward_91 (lv_at hl 0 rfl) ?_
                refine lv_iconst (v := (0 : Int32)) hx hb dX4_goForward_93 (by decide) ?_
                refine lv_iadd hx hb dX4_goForward_94 ?_
                obtain ⟨x65, e9, hJ62⟩ := ob1_s hJ62
                refine g_iald hx hb hK hB 2 0 rfl rfl (rd_s e9) dX4_goForward_95 ?_
                refine lv_iload_n hx hb dX4_goForward_96 rfl (lv_at hl 2 rfl) ?_
                refine lv_icmp_ge (tgt := 103) hx hb dX4_goForward_97 (by decide) (fun c66 => ?_) (fun c66 => ?_)
                · have hJ62 := ite_t c66 hJ62
                  refine lv_aload_n hx hb dX4_goForward_103 rfl (lv_at hl 3 rfl) ?_
                  refine g_get (C := RX4) (T := TX4) (N := 15) hx hb hts hinX4 hown hK hB 0 rfl rfl 8 rfl hq2 rfl rfl dX4_goForward_104 ?_
                  refine lv_iload hx hb dX4_goForward_107 (lv_at hl 0 rfl) ?_
                  refine lv_iconst (v := (4 : Int32)) hx hb dX4_goForward_109 (by decide) ?_
                  refine lv_iadd hx hb dX4_goForward_110 ?_
                  refine lv_iconst (v := (0 : Int32)) hx hb dX4_goForward_111 (by decide) ?_
                  obtain ⟨μ67, e9, hJ62⟩ := ob1_s hJ62
                  obtain ⟨hi, e9⟩ := wra_s e9
                  refine g_iast hx hb hK hB 2 0 rfl rfl hi rfl dX4_goForward_112 (w2 := (cM cyI cyO ad μ67)) (by rw [← e9]; rfl) (fun H locs hB => ?_)
                  refine lv_aload_n hx hb dX4_goForward_113 rfl (lv_at hl 3 rfl) ?_
                  refine g_get (C := RX4) (T := TX4) (N := 15) hx hb hts hinX4 hown hK hB 0 rfl rfl 8 rfl hq2 rfl rfl dX4_goForward_114 ?_
                  refine lv_iload hx hb dX4_goForward_117 (lv_at hl 0 rfl) ?_
                  refine lv_bipush (v := (6 : Int32)) hx hb dX4_goForward_119 (by decide) ?_
                  refine lv_iadd hx hb dX4_goForward_121 ?_
                  refine lv_aload_n hx hb dX4_goForward_122 rfl (lv_at hl 3 rfl) ?_
                  refine g_get (C := RX4) (T := TX4) (N := 15) hx hb hts hinX4 hown hK hB 0 rfl rfl 8 rfl hq2 rfl rfl dX4_goForward_123 ?_
                  refine lv_iload hx hb dX4_goForward_126 (lv_at hl 0 rfl) ?_
                  refine lv_bipush (v := (7 : Int32)) hx hb dX4_goForward_128 (by decide) ?_
                  refine lv_iadd hx hb dX4_goForward_130 ?_
                  obtain ⟨x68, e9, hJ62⟩ := ob1_s hJ62
                  refine g_iald hx hb hK hB 2 0 rfl rfl (rd_s e9) dX4_goForward_131 ?_
                  obtain ⟨μ69, e9, hJ62⟩ := ob1_s hJ62
                  obtain ⟨hi, e9⟩ := wra_s e9
                  refine g_iast hx hb hK hB 2 0 rfl rfl hi rfl dX4_goForward_132 (w2 := (cM cyI cyO ad μ69)) (by rw [← e9]; rfl) (fun H locs hB => ?_)
                  have e0 := inj1 hJ62
                  subst e0
                  exact kJ63 _ _ _ hB (lv_sub hl [1, 2, 3, 4] rfl)
                · have hJ62 := ite_f c66 hJ62
                  refine lv_goto (tgt := 133) hx hb dX4_goForward_100 (by decide) ?_
                  have e0 := inj1 hJ62
                  subst e0
                  exact kJ63 _ _ _ hB (lv_sub hl [1, 2, 3, 4] rfl)
        exact key44 fu _ _ _ _ _ hL45 hB (lv_sub hl [0, 1, 2, 3] rfl)
      · have hf := ite_t c23 hf
        refine lv_iconst (v := (-1 : Int32)) hx hb dX4_goForward_56 (by decide) ?_
        obtain ⟨e0, e1⟩ := inj2 hf
        subst e0
        subst e1
        exact g_iret hx hb hr hlocks hK hB dX4_goForward_57
    have key19 : ∀ (n9 : Nat) (v71 : Int32) (H : Heap) (locs : List Loc) (ls : Array Slot), loopM (fun st => mX4_goForward_L21 fu i1 μ6 st) n9 v71 = some v17 → Bd (dC, dI) [(cyI, .int), (cyO, .array .int)] (va_A (cM cyI cyO ad μ) s.heap.size) s (cM cyI cyO ad μ6) H locs → lv_has ls 5 [(2, .int v71), (0, .ref (ad 0)), (1, .int i1)] → W p l e (headSpec wsX4_goForward rmX4_goForward).room s m ([.ref (ad 0), .int i1] : List Value).toArray below meth c H locs 0 0 (MQ below (QiF (dC, dI) [(cyI, .int), (cyO, .array .int)] (cM cyI cyO ad μ) (cM cyI cyO ad μ_) s.heap.size r) ([.ref (ad 0), .int i1] : List Value).toArray s 0 0 (va_A (cM cyI cyO ad μ) s.heap.size)) (F0 m 21 ls []) := by
      intro n9
      induction n9 with
      | zero => intro v71 H locs ls hL20; exact (loopM_z hL20).elim
      | succ n9 ih9 =>
        intro v71 H locs ls hL20 hB hl
        obtain ⟨o72, hg21, hL20⟩ := loopM_s hL20
        have hg21 : mX4_goForward_L21 fu i1 μ6 v71 = some o72 := hg21
        unfold mX4_goForward_L21 at hg21
        refine lv_iload_n hx hb dX4_goForward_21 rfl (lv_at hl 0 rfl) ?_
        refine lv_aload_n hx hb dX4_goForward_22 rfl (lv_at hl 1 rfl) ?_
        refine lv_iload_n hx hb dX4_goForward_23 rfl (lv_at hl 2 rfl) ?_
        refine lv_iconst (v := (2 : Int32)) hx hb dX4_goForward_24 (by decide) ?_
        obtain ⟨r73, hc, hg21⟩ := ob1_s hg21
        refine g_callVi (As := [.int i1, .int (2 : Int32)]) (rest := [.int v71]) ⟨hx, hb, hml, hown, hts⟩ (kX4_ofJourney l dC dI cyI cyO ad H.size hc) (cwV 2 hts gX4_goForward_X4_ofJourney rfl rfl rfl (by decide +kernel) ⟨Nat.le_of_ble_eq_true rfl, Nat.le_of_ble_eq_true rfl⟩) hK hB hA (g_recv (ci := 4) hK hB 0 rfl rfl rfl) rfl hl.1 rfl (Nat.le_of_ble_eq_true rfl) dX4_goForward_25 ⟨Nat.zero_le _, Nat.zero_le _⟩ (fun H locs hB => ?_)
        obtain ⟨t74, hD75, hg21⟩ := ob1_s hg21
        have kTt74 : t74 = true → ∀ (H : Heap) (locs : List Loc), Bd (dC, dI) [(cyI, .int), (cyO, .array .int)] (va_A (cM cyI cyO ad μ) s.heap.size) s (cM cyI cyO ad μ6) H locs → W p l e (headSpec wsX4_goForward rmX4_goForward).room s m ([.ref (ad 0), .int i1] : List Value).toArray below meth c H locs 0 0 (MQ below (QiF (dC, dI) [(cyI, .int), (cyO, .array .int)] (cM cyI cyO ad μ) (cM cyI cyO ad μ_) s.heap.size r) ([.ref (ad 0), .int i1] : List Value).toArray s 0 0 (va_A (cM cyI cyO ad μ) s.heap.size)) (F0 m 40 ls []) := by
          intro ht H locs hB
          have hg21 := cnd_t ht hg21
          refine lv_iinc (v := (v71 + (1 : Int32))) (lv' := [(2, .int (v71 + (1 : Int32))), (0, .ref (ad 0)), (1, .int i1)]) hx hb dX4_goForward_40 hl (k := 0) rfl rfl (by decide) rfl (fun ls hl => ?_)
          refine lv_goto (tgt := 21) hx hb dX4_goForward_43 (by decide) ?_
          have hL20 := el1_r (inj1 hg21) hL20
          exact ih9 _ _ _ _ hL20 hB (lv_sub hl [0, 1, 2] rfl)
        have kFt74 : t74 = false → ∀ (H : Heap) (locs : List Loc), Bd (dC, dI) [(cyI, .int), (cyO, .array .int)] (va_A (cM cyI cyO ad μ) s.heap.size) s (cM cyI cyO ad μ6) H locs → W p l e (headSpec wsX4_goForward rmX4_goForward).room s m ([.ref (ad 0), .int i1] : List Value).toArray below meth c H locs 0 0 (MQ below (QiF (dC, dI) [(cyI, .int), (cyO, .array .int)] (cM cyI cyO ad μ) (cM cyI cyO ad μ_) s.heap.size r) ([.ref (ad 0), .int i1] : List Value).toArray s 0 0 (va_A (cM cyI cyO ad μ) s.heap.size)) (F0 m 46 ls []) := by
          intro ht H locs hB
          have hg21 := cnd_f ht hg21
          have hL20 := el1_l (inj1 hg21) hL20
          have e0 := inj1 hL20
          subst e0
          exact kE18 _ _ _ hB (lv_sub hl [0, 1, 2] rfl)
        refine lv_icmp_ge (tgt := 46) hx hb dX4_goForward_28 (by decide) (fun c76 => ?_) (fun c76 => ?_)
        · have hD75 := ite_t c76 hD75
          have e0 := inj1 hD75
          exact kFt74 e0.symm _ _ hB
        · have hD75 := ite_f c76 hD75
          refine lv_aload_n hx hb dX4_goForward_31 rfl (lv_at hl 1 rfl) ?_
          refine lv_iload_n hx hb dX4_goForward_32 rfl (lv_at hl 2 rfl) ?_
          refine lv_iload_n hx hb dX4_goForward_33 rfl (lv_at hl 0 rfl) ?_
          obtain ⟨r77, hc, hD75⟩ := ob1_s hD75
          refine g_callVz (As := [.int i1, .int v71]) (rest := []) ⟨hx, hb, hml, hown, hts⟩ (kX4_isOver l dC dI cyI cyO ad H.size hc) (cwV 2 hts gX4_goForward_X4_isOver rfl rfl rfl (by decide +kernel) ⟨Nat.le_of_ble_eq_true rfl, Nat.le_of_ble_eq_true rfl⟩) hK hB hA (g_recv (ci := 4) hK hB 0 rfl rfl rfl) rfl hl.1 rfl (Nat.le_of_ble_eq_true rfl) dX4_goForward_34 ⟨Nat.zero_le _, Nat.zero_le _⟩ (fun z78 H locs hB => ?_)
          refine lv_if_eq (tgt := 46) hx hb dX4_goForward_37 (by decide) (fun c79 => ?_) (fun c79 => ?_)
          · have hD75 := ite_t c79 hD75
            have e0 := inj1 hD75
            exact kFt74 e0.symm _ _ hB
          · have hD75 := ite_f c79 hD75
            have e0 := inj1 hD75
            exact kTt74 e0.symm _ _ hB
    exact key19 fu _ _ _ _ hL20 hB (lv_sub hl [0, 1, 2] rfl)
  · have hf := ite_f c5 hf
    refine lv_iconst (v := (0 : Int32)) hx hb dX4_goForward_13 (by decide) ?_
    obtain ⟨e0, e1⟩ := inj2 hf
    subst e0
    subst e1
    exact g_iret hx hb hr hlocks hK hB dX4_goForward_14

abbrev rmX4_restock : Room := { frames := 2, cells := 0, slots := 0, locals := 43 }

set_option maxHeartbeats 4000000 in
set_option maxRecDepth 100000 in
theorem kX4_restock (l : Launch) (dC : Nat → ClassId) (dI : Nat → Nat → Nat) (cyI cyO : ClassId) (ad : Nat → Nat) (sz : Nat) {fu : Nat} {μ : MS} {i1 : Int32} {i2 : Int32} {r : Int32} {μ_ : MS} (hf : mX4_restock fu μ i1 i2 = some (r, μ_)) : Met l yX4_restock wsX4_restock rmX4_restock (PcF (dC, dI) [(cyI, .int), (cyO, .array .int)] (cM cyI cyO ad μ) sz [.ref (ad 0), .int i1, .int i2]) (QiF (dC, dI) [(cyI, .int), (cyO, .array .int)] (cM cyI cyO ad μ) (cM cyI cyO ad μ_) sz r) 0 0 (va_A (cM cyI cyO ad μ) sz) := by
  refine Met.ofW (cc := cX4_restock) (maxL := 3) (ret := (some .int)) (by decide) rfl ?_
  intro p e s m args below meth c s₁ B hml hv
  obtain ⟨rfl, hsz, hP, hK, hD0⟩ := hv
  have hx := B.exec
  have hb := B.bytes
  have hr := B.returns
  have hts := atoms_spec (ws := wsX4_restock) B.pre
  have hown : s.vm.findClass RX4 = some m.cls := findClass_of_methodNamed B.named
  have hlocks := B.notSynchronized
  subst hsz
  have hA : ∀ q : Nat, s.heap.size ≤ q → va_A (cM cyI cyO ad μ) s.heap.size q := fun q h => Or.inr h
  have hB : Bd (dC, dI) [(cyI, .int), (cyO, .array .int)] (va_A (cM cyI cyO ad μ) s.heap.size) s (cM cyI cyO ad μ) s.heap [] := ⟨hP, hD0.self, va_S.rf⟩
  have hq1 : (Cond.fieldLink RX4 35 "UndoJourneysModel" "thrown" "I").before _ s = true := hts _ (List.mem_of_getElem? (i := 1) rfl)
  have hq2 : (Cond.fieldLink RX4 17 "UndoJourneysModel" "data" "[I").before _ s = true := hts _ (List.mem_of_getElem? (i := 2) rfl)
  have hinX4 : ∀ w ∈ wsX40, w ∈ wsX4_restock := fun w h => List.mem_cons_of_mem _ (List.mem_append_right _ h)
  have hl := lv_entry [.ref (ad 0), .int i1, .int i2] (n := 3) (Nat.le_of_ble_eq_true rfl)
  rw [lg_entry_eq]
  generalize (lg_sl [.ref (ad 0), .int i1, .int i2] ++ List.replicate (3 - (lg_sl [.ref (ad 0), .int i1, .int i2]).length) Slot.unset).toArray = ls at hl ⊢
  have hl : lv_has ls 3 [(0, .ref (ad 0)), (1, .int i1), (2, .int i2)] := hl
  clear hP hD0
  suffices main : ∀ (H : Heap) (locs : List Loc), Bd (dC, dI) [(cyI, .int), (cyO, .array .int)] (va_A (cM cyI cyO ad μ) s.heap.size) s (cM cyI cyO ad μ) H locs → W p l e (headSpec wsX4_restock rmX4_restock).room s m ([.ref (ad 0), .int i1, .int i2] : List Value).toArray below meth c H locs 0 0 (MQ below (QiF (dC, dI) [(cyI, .int), (cyO, .array .int)] (cM cyI cyO ad μ) (cM cyI cyO ad μ_) s.heap.size r) ([.ref (ad 0), .int i1, .int i2] : List Value).toArray s 0 0 (va_A (cM cyI cyO ad μ) s.heap.size)) (F0 m 0 ls []) from main _ _ hB
  clear hB
  intro H locs hB
  unfold mX4_restock at hf
  refine lv_aload_n hx hb dX4_restock_0 rfl (lv_at hl 0 rfl) ?_
  refine lv_iconst (v := (0 : Int32)) hx hb dX4_restock_1 (by decide) ?_
  obtain ⟨μ1, e9, hf⟩ := ob1_s hf
  have e9 := inj1 e9
  refine g_put (C := RX4) (T := TX4) (N := 15) hx hb hts hinX4 tyX4 tyX4_ok nmX4 hown hK hB 0 rfl rfl 0 rfl hq1 rfl rfl rfl rfl rfl rfl dX4_restock_2 (w2 := (cM cyI cyO ad μ1)) (by rw [← e9]; rfl) (fun H locs hB => ?_)
  refine lv_aload_n hx hb dX4_restock_5 rfl (lv_at hl 0 rfl) ?_
  refine lv_iload_n hx hb dX4_restock_6 rfl (lv_at hl 1 rfl) ?_
  obtain ⟨r2, μ3, hc, hf⟩ := ob2_s hf
  refine g_callVz (As := [.int i1]) (rest := []) ⟨hx, hb, hml, hown, hts⟩ (kX4_noStock l dC dI cyI cyO ad H.size hc) (cwV 1 hts gX4_restock_X4_noStock rfl rfl rfl (by decide +kernel) ⟨Nat.le_of_ble_eq_true rfl, Nat.le_of_ble_eq_true rfl⟩) hK hB hA (g_recv (ci := 4) hK hB 0 rfl rfl rfl) rfl hl.1 rfl (Nat.le_of_ble_eq_true rfl) dX4_restock_7 ⟨Nat.zero_le _, Nat.zero_le _⟩ (fun z4 H locs hB => ?_)
  refine lv_if_ne (tgt := 37) hx hb dX4_restock_10 (by decide) (fun c5 => ?_) (fun c5 => ?_)
  · have hf := ite_f c5 hf
    refine lv_iconst (v := (0 : Int32)) hx hb dX4_restock_37 (by decide) ?_
    obtain ⟨e0, e1⟩ := inj2 hf
    subst e0
    subst e1
    exact g_iret hx hb hr hlocks hK hB dX4_restock_38
  · have hf := ite_t c5 hf
    refine lv_aload_n hx hb dX4_restock_13 rfl (lv_at hl 0 rfl) ?_
    refine lv_iload_n hx hb dX4_restock_14 rfl (lv_at hl 2 rfl) ?_
    refine lv_iconst (v := (1 : Int32)) hx hb dX4_restock_15 (by decide) ?_
    refine lv_sipush (v := (999 : Int32)) hx hb dX4_restock_16 (by decide) ?_
    obtain ⟨r6, hc, hf⟩ := ob1_s hf
    refine g_pcutSz (As := [.int i2, .int (1 : Int32), .int (999 : Int32)]) (rest := [.ref (ad 0)]) (w2 := (cM cyI cyO ad μ3)) ⟨hx, hb, hml, hown, hts⟩ (kX4_in l dC dI [(cyI, .int), (cyO, .array .int)] H.size hc) (va_cwS 3 hts gX4_restock_X4_in rfl rfl rfl (by decide +kernel) ⟨Nat.le_of_ble_eq_true rfl, Nat.le_of_ble_eq_true rfl⟩) hK hB hA (List.Perm.refl _) (List.Perm.refl _) rfl hl.1 rfl (Nat.le_of_ble_eq_true rfl) dX4_restock_19 ⟨Nat.zero_le _, Nat.zero_le _⟩ (fun z7 H locs hB => ?_)
    obtain ⟨v8, hJ10, hf⟩ := ob1_s hf
    have kJ11 : (v8 = 0 ∨ v8 = 1) → ∀ (H : Heap) (locs : List Loc) (ls : Array Slot), Bd (dC, dI) [(cyI, .int), (cyO, .array .int)] (va_A (cM cyI cyO ad μ) s.heap.size) s (cM cyI cyO ad μ3) H locs → lv_has ls 3 [(0, .ref (ad 0)), (1, .int i1), (2, .int i2)] → W p l e (headSpec wsX4_restock rmX4_restock).room s m ([.ref (ad 0), .int i1, .int i2] : List Value).toArray below meth c H locs 0 0 (MQ below (QiF (dC, dI) [(cyI, .int), (cyO, .array .int)] (cM cyI cyO ad μ) (cM cyI cyO ad μ_) s.heap.size r) ([.ref (ad 0), .int i1, .int i2] : List Value).toArray s 0 0 (va_A (cM cyI cyO ad μ) s.heap.size)) (F0 m 30 ls [.int v8, .ref (ad 0)]) := by
      intro z9 H locs ls hB hl
      refine lv_iconst (v := (2 : Int32)) hx hb dX4_restock_30 (by decide) ?_
      obtain ⟨r13, μ14, hc, hf⟩ := ob2_s hf
      refine g_callVz (As := [.int v8, .int (2 : Int32)]) (rest := []) ⟨hx, hb, hml, hown, hts⟩ (kX4_fails l dC dI cyI cyO ad H.size hc) (cwV 2 hts gX4_restock_X4_fails rfl rfl rfl (by decide +kernel) ⟨Nat.le_of_ble_eq_true rfl, Nat.le_of_ble_eq_true rfl⟩) hK hB hA (g_recv (ci := 4) hK hB 0 rfl rfl rfl) rfl hl.1 rfl (Nat.le_of_ble_eq_true rfl) dX4_restock_31 ⟨Nat.zero_le _, Nat.zero_le _⟩ (fun z15 H locs hB => ?_)
      refine lv_if_eq (tgt := 39) hx hb dX4_restock_34 (by decide) (fun c16 => ?_) (fun c16 => ?_)
      · have hf := ite_t c16 hf
        refine lv_aload_n hx hb dX4_restock_39 rfl (lv_at hl 0 rfl) ?_
        obtain ⟨μ17, hc, hf⟩ := ob1_s hf
        refine g_callVv (As := []) (rest := []) ⟨hx, hb, hml, hown, hts⟩ (kX4_remember l dC dI cyI cyO ad H.size hc) (cwV 0 hts gX4_restock_X4_remember rfl rfl rfl (by decide +kernel) ⟨Nat.le_of_ble_eq_true rfl, Nat.le_of_ble_eq_true rfl⟩) hK hB hA (g_recv (ci := 4) hK hB 0 rfl rfl rfl) rfl hl.1 rfl (Nat.le_of_ble_eq_true rfl) dX4_restock_40 ⟨Nat.zero_le _, Nat.zero_le _⟩ (fun H locs hB => ?_)
        refine lv_aload_n hx hb dX4_restock_43 rfl (lv_at hl 0 rfl) ?_
        refine g_get (C := RX4) (T := TX4) (N := 15) hx hb hts hinX4 hown hK hB 0 rfl rfl 8 rfl hq2 rfl rfl dX4_restock_44 ?_
        refine lv_bipush (v := (7 : Int32)) hx hb dX4_restock_47 (by decide) ?_
        refine lv_iconst (v := (2 : Int32)) hx hb dX4_restock_49 (by decide) ?_
        refine lv_iload_n hx hb dX4_restock_50 rfl (lv_at hl 1 rfl) ?_
        refine lv_imul hx hb dX4_restock_51 ?_
        refine lv_iadd hx hb dX4_restock_52 ?_
        refine lv_iconst (v := (0 : Int32)) hx hb dX4_restock_53 (by decide) ?_
        refine lv_iadd hx hb dX4_restock_54 ?_
        refine lv_dup2_11 hx hb dX4_restock_55 rfl rfl ?_
        obtain ⟨x18, e9, hf⟩ := ob1_s hf
        refine g_iald hx hb hK hB 2 0 rfl rfl (rd_s e9) dX4_restock_56 ?_
        refine lv_iload_n hx hb dX4_restock_57 rfl (lv_at hl 2 rfl) ?_
        refine lv_iadd hx hb dX4_restock_58 ?_
        obtain ⟨μ19, e9, hf⟩ := ob1_s hf
        obtain ⟨hi, e9⟩ := wra_s e9
        refine g_iast hx hb hK hB 2 0 rfl rfl hi rfl dX4_restock_59 (w2 := (cM cyI cyO ad μ19)) (by rw [← e9]; rfl) (fun H locs hB => ?_)
        refine lv_aload_n hx hb dX4_restock_60 rfl (lv_at hl 0 rfl) ?_
        refine g_get (C := RX4) (T := TX4) (N := 15) hx hb hts hinX4 hown hK hB 0 rfl rfl 8 rfl hq2 rfl rfl dX4_restock_61 ?_
        refine lv_bipush (v := (7 : Int32)) hx hb dX4_restock_64 (by decide) ?_
        refine lv_iconst (v := (2 : Int32)) hx hb dX4_restock_66 (by decide) ?_
        refine lv_iload_n hx hb dX4_restock_67 rfl (lv_at hl 1 rfl) ?_
        refine lv_imul hx hb dX4_restock_68 ?_
        refine lv_iadd hx hb dX4_restock_69 ?_
        refine lv_iconst (v := (0 : Int32)) hx hb dX4_restock_70 (by decide) ?_
        refine lv_iadd hx hb dX4_restock_71 ?_
        obtain ⟨x20, e9, hf⟩ := ob1_s hf
        refine g_iald hx hb hK hB 2 0 rfl rfl (rd_s e9) dX4_restock_72 ?_
        obtain ⟨e0, e1⟩ := inj2 hf
        subst e0
        subst e1
        exact g_iret hx hb hr hlocks hK hB dX4_restock_73
      · have hf := ite_f c16 hf
        refine lv_iconst (v := (0 : Int32)) hx hb dX4_restock_37 (by decide) ?_
        obtain ⟨e0, e1⟩ := inj2 hf
        subst e0
        subst e1
        exact g_iret hx hb hr hlocks hK hB dX4_restock_38
    refine lv_if_ne (tgt := 29) hx hb dX4_restock_22 (by decide) (fun c12 => ?_) (fun c12 => ?_)
    · have hJ10 := ite_f c12 hJ10
      refine lv_iconst (v := (0 : Int32)) hx hb dX4_restock_29 (by decide) ?_
      have e0 := inj1 hJ10
      subst e0
      exact kJ11 (Or.inl rfl) _ _ _ hB (lv_sub hl [0, 1, 2] rfl)
    · have hJ10 := ite_t c12 hJ10
      refine lv_iconst (v := (1 : Int32)) hx hb dX4_restock_25 (by decide) ?_
      refine lv_goto (tgt := 30) hx hb dX4_restock_26 (by decide) ?_
      have e0 := inj1 hJ10
      subst e0
      exact kJ11 (Or.inr rfl) _ _ _ hB (lv_sub hl [0, 1, 2] rfl)

abbrev rmX4_undo : Room := { frames := 1, cells := 0, slots := 0, locals := 22 }

set_option maxHeartbeats 4000000 in
set_option maxRecDepth 100000 in
theorem kX4_undo (l : Launch) (dC : Nat → ClassId) (dI : Nat → Nat → Nat) (cyI cyO : ClassId) (ad : Nat → Nat) (sz : Nat) {fu : Nat} {μ : MS} {r : Int32} {μ_ : MS} (hf : mX4_undo fu μ = some (r, μ_)) : Met l yX4_undo wsX4_undo rmX4_undo (PcF (dC, dI) [(cyI, .int), (cyO, .array .int)] (cM cyI cyO ad μ) sz [.ref (ad 0)]) (QiF (dC, dI) [(cyI, .int), (cyO, .array .int)] (cM cyI cyO ad μ) (cM cyI cyO ad μ_) sz r) 0 0 (va_A (cM cyI cyO ad μ) sz) := by
  refine Met.ofW (cc := cX4_undo) (maxL := 1) (ret := (some .int)) (by decide) rfl ?_
  intro p e s m args below meth c s₁ B hml hv
  obtain ⟨rfl, hsz, hP, hK, hD0⟩ := hv
  have hx := B.exec
  have hb := B.bytes
  have hr := B.returns
  have hts := atoms_spec (ws := wsX4_undo) B.pre
  have hown : s.vm.findClass RX4 = some m.cls := findClass_of_methodNamed B.named
  have hlocks := B.notSynchronized
  subst hsz
  have hA : ∀ q : Nat, s.heap.size ≤ q → va_A (cM cyI cyO ad μ) s.heap.size q := fun q h => Or.inr h
  have hB : Bd (dC, dI) [(cyI, .int), (cyO, .array .int)] (va_A (cM cyI cyO ad μ) s.heap.size) s (cM cyI cyO ad μ) s.heap [] := ⟨hP, hD0.self, va_S.rf⟩
  have hq1 : (Cond.fieldLink RX4 35 "UndoJourneysModel" "thrown" "I").before _ s = true := hts _ (List.mem_of_getElem? (i := 1) rfl)
  have hq2 : (Cond.fieldLink RX4 250 "UndoJourneysModel" "undoDepth" "I").before _ s = true := hts _ (List.mem_of_getElem? (i := 2) rfl)
  have hq3 : (Cond.fieldLink RX4 28 "UndoJourneysModel" "history" "[[I").before _ s = true := hts _ (List.mem_of_getElem? (i := 3) rfl)
  have hq4 : (Cond.fieldLink RX4 17 "UndoJourneysModel" "data" "[I").before _ s = true := hts _ (List.mem_of_getElem? (i := 4) rfl)
  have hinX4 : ∀ w ∈ wsX40, w ∈ wsX4_undo := fun w h => List.mem_cons_of_mem _ (List.mem_append_right _ h)
  have hl := lv_entry [.ref (ad 0)] (n := 1) (Nat.le_of_ble_eq_true rfl)
  rw [lg_entry_eq]
  generalize (lg_sl [.ref (ad 0)] ++ List.replicate (1 - (lg_sl [.ref (ad 0)]).length) Slot.unset).toArray = ls at hl ⊢
  have hl : lv_has ls 1 [(0, .ref (ad 0))] := hl
  clear hP hD0
  suffices main : ∀ (H : Heap) (locs : List Loc), Bd (dC, dI) [(cyI, .int), (cyO, .array .int)] (va_A (cM cyI cyO ad μ) s.heap.size) s (cM cyI cyO ad μ) H locs → W p l e (headSpec wsX4_undo rmX4_undo).room s m ([.ref (ad 0)] : List Value).toArray below meth c H locs 0 0 (MQ below (QiF (dC, dI) [(cyI, .int), (cyO, .array .int)] (cM cyI cyO ad μ) (cM cyI cyO ad μ_) s.heap.size r) ([.ref (ad 0)] : List Value).toArray s 0 0 (va_A (cM cyI cyO ad μ) s.heap.size)) (F0 m 0 ls []) from main _ _ hB
  clear hB
  intro H locs hB
  unfold mX4_undo at hf
  refine lv_aload_n hx hb dX4_undo_0 rfl (lv_at hl 0 rfl) ?_
  refine lv_iconst (v := (0 : Int32)) hx hb dX4_undo_1 (by decide) ?_
  obtain ⟨μ1, e9, hf⟩ := ob1_s hf
  have e9 := inj1 e9
  refine g_put (C := RX4) (T := TX4) (N := 15) hx hb hts hinX4 tyX4 tyX4_ok nmX4 hown hK hB 0 rfl rfl 0 rfl hq1 rfl rfl rfl rfl rfl rfl dX4_undo_2 (w2 := (cM cyI cyO ad μ1)) (by rw [← e9]; rfl) (fun H locs hB => ?_)
  refine lv_aload_n hx hb dX4_undo_5 rfl (lv_at hl 0 rfl) ?_
  refine g_get (C := RX4) (T := TX4) (N := 15) hx hb hts hinX4 hown hK hB 0 rfl rfl 12 rfl hq2 rfl rfl dX4_undo_6 ?_
  refine lv_if_ne (tgt := 14) hx hb dX4_undo_9 (by decide) (fun c2 => ?_) (fun c2 => ?_)
  · have hf := ite_f c2 hf
    refine lv_aload_n hx hb dX4_undo_14 rfl (lv_at hl 0 rfl) ?_
    refine lv_dup hx hb dX4_undo_15 rfl ?_
    refine g_get (C := RX4) (T := TX4) (N := 15) hx hb hts hinX4 hown hK hB 0 rfl rfl 12 rfl hq2 rfl rfl dX4_undo_16 ?_
    refine lv_iconst (v := (1 : Int32)) hx hb dX4_undo_19 (by decide) ?_
    refine lv_isub hx hb dX4_undo_20 ?_
    obtain ⟨μ3, e9, hf⟩ := ob1_s hf
    have e9 := inj1 e9
    refine g_put (C := RX4) (T := TX4) (N := 15) hx hb hts hinX4 tyX4 tyX4_ok nmX4 hown hK hB 0 rfl rfl 12 rfl hq2 rfl rfl rfl rfl rfl rfl dX4_undo_21 (w2 := (cM cyI cyO ad μ3)) (by rw [← e9]; rfl) (fun H locs hB => ?_)
    refine lv_aload_n hx hb dX4_undo_24 rfl (lv_at hl 0 rfl) ?_
    refine g_get (C := RX4) (T := TX4) (N := 15) hx hb hts hinX4 hown hK hB 0 rfl rfl 11 rfl hq3 rfl rfl dX4_undo_25 ?_
    refine lv_aload_n hx hb dX4_undo_28 rfl (lv_at hl 0 rfl) ?_
    refine g_get (C := RX4) (T := TX4) (N := 15) hx hb hts hinX4 hown hK hB 0 rfl rfl 12 rfl hq2 rfl rfl dX4_undo_29 ?_
    obtain ⟨j4, e9, hf⟩ := ob1_s hf
    obtain ⟨hjj4, e9⟩ := hix_s e9
    refine g_aald hx hb hK hB 5 1 rfl rfl e9 dX4_undo_32 ?_
    refine lv_aload_n hx hb dX4_undo_33 rfl (lv_at hl 0 rfl) ?_
    refine g_get (C := RX4) (T := TX4) (N := 15) hx hb hts hinX4 hown hK hB 0 rfl rfl 8 rfl hq4 rfl rfl dX4_undo_34 ?_
    obtain ⟨f5, hc, hf⟩ := ob1_s hf
    obtain ⟨μ6, e9, hf⟩ := ob1_s hf
    have e9 := inj1 e9
    refine g_copy (rest := []) hx hb hml hown hts hc (va_cwS 2 hts gX4_undo_X4_copy rfl rfl rfl (by decide +kernel) ⟨Nat.le_of_ble_eq_true rfl, Nat.le_of_ble_eq_true rfl⟩) hK rfl hB hA (6 + j4) 2 (hM_at cyI cyO ad _ hjj4) rfl (by omega) (w2 := (cM cyI cyO ad μ6)) (by rw [← e9]; rfl) hl.1 rfl (Nat.le_of_ble_eq_true rfl) dX4_undo_37 ⟨Nat.zero_le _, Nat.zero_le _⟩ (fun H locs hB => ?_)
    refine lv_aload_n hx hb dX4_undo_40 rfl (lv_at hl 0 rfl) ?_
    refine g_get (C := RX4) (T := TX4) (N := 15) hx hb hts hinX4 hown hK hB 0 rfl rfl 12 rfl hq2 rfl rfl dX4_undo_41 ?_
    obtain ⟨e0, e1⟩ := inj2 hf
    subst e0
    subst e1
    exact g_iret hx hb hr hlocks hK hB dX4_undo_44
  · have hf := ite_t c2 hf
    refine lv_iconst (v := (-1 : Int32)) hx hb dX4_undo_12 (by decide) ?_
    obtain ⟨e0, e1⟩ := inj2 hf
    subst e0
    subst e1
    exact g_iret hx hb hr hlocks hK hB dX4_undo_13

abbrev rmX4_checksum : Room := { frames := 8, cells := 0, slots := 0, locals := 176 }

set_option maxHeartbeats 4000000 in
set_option maxRecDepth 100000 in
theorem kX4_checksum (l : Launch) (dC : Nat → ClassId) (dI : Nat → Nat → Nat) (cyI cyO : ClassId) (ad : Nat → Nat) (sz : Nat) {fu : Nat} {μ : MS} {r : Int64} {μ_ : MS} (hf : mX4_checksum fu μ = some (r, μ_)) : Met l yX4_checksum wsX4_checksum rmX4_checksum (PcF (dC, dI) [(cyI, .int), (cyO, .array .int)] (cM cyI cyO ad μ) sz [.ref (ad 0)]) (QlF (dC, dI) [(cyI, .int), (cyO, .array .int)] (cM cyI cyO ad μ) (cM cyI cyO ad μ_) sz r) 0 0 (va_A (cM cyI cyO ad μ) sz) := by
  refine Met.ofW (cc := cX4_checksum) (maxL := 6) (ret := (some .long)) (by decide) rfl ?_
  intro p e s m args below meth c s₁ B hml hv
  obtain ⟨rfl, hsz, hP, hK, hD0⟩ := hv
  have hx := B.exec
  have hb := B.bytes
  have hr := B.returns
  have hts := atoms_spec (ws := wsX4_checksum) B.pre
  have hown : s.vm.findClass RX4 = some m.cls := findClass_of_methodNamed B.named
  have hlocks := B.notSynchronized
  subst hsz
  have hA : ∀ q : Nat, s.heap.size ≤ q → va_A (cM cyI cyO ad μ) s.heap.size q := fun q h => Or.inr h
  have hB : Bd (dC, dI) [(cyI, .int), (cyO, .array .int)] (va_A (cM cyI cyO ad μ) s.heap.size) s (cM cyI cyO ad μ) s.heap [] := ⟨hP, hD0.self, va_S.rf⟩
  have hq1 : (Cond.fieldLink RX4 35 "UndoJourneysModel" "thrown" "I").before _ s = true := hts _ (List.mem_of_getElem? (i := 1) rfl)
  have hq2 : (Cond.constantLong RX4 256 (31)).before _ s = true := hts _ (List.mem_of_getElem? (i := 2) rfl)
  have hq3 : (Cond.fieldLink RX4 17 "UndoJourneysModel" "data" "[I").before _ s = true := hts _ (List.mem_of_getElem? (i := 3) rfl)
  have hinX4 : ∀ w ∈ wsX40, w ∈ wsX4_checksum := fun w h => List.mem_cons_of_mem _ (List.mem_append_right _ h)
  have hl := lv_entry [.ref (ad 0)] (n := 6) (Nat.le_of_ble_eq_true rfl)
  rw [lg_entry_eq]
  generalize (lg_sl [.ref (ad 0)] ++ List.replicate (6 - (lg_sl [.ref (ad 0)]).length) Slot.unset).toArray = ls at hl ⊢
  have hl : lv_has ls 6 [(0, .ref (ad 0))] := hl
  clear hP hD0
  suffices main : ∀ (H : Heap) (locs : List Loc), Bd (dC, dI) [(cyI, .int), (cyO, .array .int)] (va_A (cM cyI cyO ad μ) s.heap.size) s (cM cyI cyO ad μ) H locs → W p l e (headSpec wsX4_checksum rmX4_checksum).room s m ([.ref (ad 0)] : List Value).toArray below meth c H locs 0 0 (MQ below (QlF (dC, dI) [(cyI, .int), (cyO, .array .int)] (cM cyI cyO ad μ) (cM cyI cyO ad μ_) s.heap.size r) ([.ref (ad 0)] : List Value).toArray s 0 0 (va_A (cM cyI cyO ad μ) s.heap.size)) (F0 m 0 ls []) from main _ _ hB
  clear hB
  intro H locs hB
  unfold mX4_checksum at hf
  refine lv_aload_n hx hb dX4_checksum_0 rfl (lv_at hl 0 rfl) ?_
  refine lv_iconst (v := (0 : Int32)) hx hb dX4_checksum_1 (by decide) ?_
  obtain ⟨μ1, e9, hf⟩ := ob1_s hf
  have e9 := inj1 e9
  refine g_put (C := RX4) (T := TX4) (N := 15) hx hb hts hinX4 tyX4 tyX4_ok nmX4 hown hK hB 0 rfl rfl 0 rfl hq1 rfl rfl rfl rfl rfl rfl dX4_checksum_2 (w2 := (cM cyI cyO ad μ1)) (by rw [← e9]; rfl) (fun H locs hB => ?_)
  refine lv_lconst (v := (0 : Int64)) hx hb dX4_checksum_5 (by decide) ?_
  refine lv_lstore_n (lv' := [(1, .long (0 : Int64)), (0, .ref (ad 0))]) hx hb dX4_checksum_6 rfl hl (by decide) rfl (fun ls hl => ?_)
  refine lv_iconst (v := (0 : Int32)) hx hb dX4_checksum_7 (by decide) ?_
  refine lv_istore_n (lv' := [(3, .int (0 : Int32)), (1, .long (0 : Int64)), (0, .ref (ad 0))]) hx hb dX4_checksum_8 rfl hl (by decide) rfl (fun ls hl => ?_)
  obtain ⟨v7, hL10, hf⟩ := ob1_s hf
  have kE8 : ∀ (H : Heap) (locs : List Loc) (ls : Array Slot), Bd (dC, dI) [(cyI, .int), (cyO, .array .int)] (va_A (cM cyI cyO ad μ) s.heap.size) s (cM cyI cyO ad μ1) H locs → lv_has ls 6 [(1, .long v7), (0, .ref (ad 0))] → W p l e (headSpec wsX4_checksum rmX4_checksum).room s m ([.ref (ad 0)] : List Value).toArray below meth c H locs 0 0 (MQ below (QlF (dC, dI) [(cyI, .int), (cyO, .array .int)] (cM cyI cyO ad μ) (cM cyI cyO ad μ_) s.heap.size r) ([.ref (ad 0)] : List Value).toArray s 0 0 (va_A (cM cyI cyO ad μ) s.heap.size)) (F0 m 34 ls []) := by
    intro H locs ls hB hl
    refine lv_iconst (v := (0 : Int32)) hx hb dX4_checksum_34 (by decide) ?_
    refine lv_istore_n (lv' := [(3, .int (0 : Int32)), (1, .long v7), (0, .ref (ad 0))]) hx hb dX4_checksum_35 rfl hl (by decide) rfl (fun ls hl => ?_)
    obtain ⟨v34, hL37, hf⟩ := ob1_s hf
    have kE35 : ∀ (H : Heap) (locs : List Loc) (ls : Array Slot), Bd (dC, dI) [(cyI, .int), (cyO, .array .int)] (va_A (cM cyI cyO ad μ) s.heap.size) s (cM cyI cyO ad μ1) H locs → lv_has ls 6 [(1, .long v34), (0, .ref (ad 0))] → W p l e (headSpec wsX4_checksum rmX4_checksum).room s m ([.ref (ad 0)] : List Value).toArray below meth c H locs 0 0 (MQ below (QlF (dC, dI) [(cyI, .int), (cyO, .array .int)] (cM cyI cyO ad μ) (cM cyI cyO ad μ_) s.heap.size r) ([.ref (ad 0)] : List Value).toArray s 0 0 (va_A (cM cyI cyO ad μ) s.heap.size)) (F0 m 83 ls []) := by
      intro H locs ls hB hl
      refine lv_iconst (v := (0 : Int32)) hx hb dX4_checksum_83 (by decide) ?_
      refine lv_istore_n (lv' := [(3, .int (0 : Int32)), (1, .long v34), (0, .ref (ad 0))]) hx hb dX4_checksum_84 rfl hl (by decide) rfl (fun ls hl => ?_)
      obtain ⟨v115, hL118, hf⟩ := ob1_s hf
      have kE116 : ∀ (H : Heap) (locs : List Loc) (ls : Array Slot), Bd (dC, dI) [(cyI, .int), (cyO, .array .int)] (va_A (cM cyI cyO ad μ) s.heap.size) s (cM cyI cyO ad μ1) H locs → lv_has ls 6 [(1, .long v115)] → W p l e (headSpec wsX4_checksum rmX4_checksum).room s m ([.ref (ad 0)] : List Value).toArray below meth c H locs 0 0 (MQ below (QlF (dC, dI) [(cyI, .int), (cyO, .array .int)] (cM cyI cyO ad μ) (cM cyI cyO ad μ_) s.heap.size r) ([.ref (ad 0)] : List Value).toArray s 0 0 (va_A (cM cyI cyO ad μ) s.heap.size)) (F0 m 191 ls []) := by
        intro H locs ls hB hl
        refine lv_lload_n hx hb dX4_checksum_191 rfl (lv_at hl 0 rfl) ?_
        obtain ⟨e0, e1⟩ := inj2 hf
        subst e0
        subst e1
        exact g_lret hx hb hr hlocks hK hB dX4_checksum_192
      have key117 : ∀ (n9 : Nat) (v121 : Int32) (v122 : Int64) (H : Heap) (locs : List Loc) (ls : Array Slot), loopM (fun st => mX4_checksum_L85 fu μ1 st.1 st.2) n9 (v121, v122) = some v115 → Bd (dC, dI) [(cyI, .int), (cyO, .array .int)] (va_A (cM cyI cyO ad μ) s.heap.size) s (cM cyI cyO ad μ1) H locs → lv_has ls 6 [(3, .int v121), (1, .long v122), (0, .ref (ad 0))] → W p l e (headSpec wsX4_checksum rmX4_checksum).room s m ([.ref (ad 0)] : List Value).toArray below meth c H locs 0 0 (MQ below (QlF (dC, dI) [(cyI, .int), (cyO, .array .int)] (cM cyI cyO ad μ) (cM cyI cyO ad μ_) s.heap.size r) ([.ref (ad 0)] : List Value).toArray s 0 0 (va_A (cM cyI cyO ad μ) s.heap.size)) (F0 m 85 ls []) := by
        intro n9
        induction n9 with
        | zero => intro v121 v122 H locs ls hL118; exact (loopM_z hL118).elim
        | succ n9 ih9 =>
          intro v121 v122 H locs ls hL118 hB hl
          obtain ⟨o123, hg119, hL118⟩ := loopM_s hL118
          have hg119 : mX4_checksum_L85 fu μ1 v121 v122 = some o123 := hg119
          unfold mX4_checksum_L85 at hg119
          refine lv_iload_n hx hb dX4_checksum_85 rfl (lv_at hl 0 rfl) ?_
          refine lv_aload_n hx hb dX4_checksum_86 rfl (lv_at hl 2 rfl) ?_
          refine g_get (C := RX4) (T := TX4) (N := 15) hx hb hts hinX4 hown hK hB 0 rfl rfl 8 rfl hq3 rfl rfl dX4_checksum_87 ?_
          refine lv_iconst (v := (2 : Int32)) hx hb dX4_checksum_90 (by decide) ?_
          obtain ⟨x124, e9, hg119⟩ := ob1_s hg119
          refine g_iald hx hb hK hB 2 0 rfl rfl (rd_s e9) dX4_checksum_91 ?_
          refine lv_icmp_ge (tgt := 191) hx hb dX4_checksum_92 (by decide) (fun c125 => ?_) (fun c125 => ?_)
          · have hg119 := ite_t c125 hg119
            have hL118 := el1_l (inj1 hg119) hL118
            have e0 := inj1 hL118
            subst e0
            exact kE116 _ _ _ hB (lv_sub hl [1] rfl)
          · have hg119 := ite_f c125 hg119
            refine lv_iconst (v := (0 : Int32)) hx hb dX4_checksum_95 (by decide) ?_
            refine lv_istore (lv' := [(4, .int (0 : Int32)), (3, .int v121), (1, .long v122), (0, .ref (ad 0))]) hx hb dX4_checksum_96 hl (by decide) rfl (fun ls hl => ?_)
            obtain ⟨v130, hL133, hg119⟩ := ob1_s hg119
            have kE131 : ∀ (H : Heap) (locs : List Loc) (ls : Array Slot), Bd (dC, dI) [(cyI, .int), (cyO, .array .int)] (va_A (cM cyI cyO ad μ) s.heap.size) s (cM cyI cyO ad μ1) H locs → lv_has ls 6 [(3, .int v121), (1, .long v130), (0, .ref (ad 0))] → W p l e (headSpec wsX4_checksum rmX4_checksum).room s m ([.ref (ad 0)] : List Value).toArray below meth c H locs 0 0 (MQ below (QlF (dC, dI) [(cyI, .int), (cyO, .array .int)] (cM cyI cyO ad μ) (cM cyI cyO ad μ_) s.heap.size r) ([.ref (ad 0)] : List Value).toArray s 0 0 (va_A (cM cyI cyO ad μ) s.heap.size)) (F0 m 126 ls []) := by
              intro H locs ls hB hl
              refine lv_iconst (v := (0 : Int32)) hx hb dX4_checksum_126 (by decide) ?_
              refine lv_istore (lv' := [(4, .int (0 : Int32)), (3, .int v121), (1, .long v130), (0, .ref (ad 0))]) hx hb dX4_checksum_127 hl (by decide) rfl (fun ls hl => ?_)
              obtain ⟨v139, hL142, hg119⟩ := ob1_s hg119
              have kE140 : ∀ (H : Heap) (locs : List Loc) (ls : Array Slot), Bd (dC, dI) [(cyI, .int), (cyO, .array .int)] (va_A (cM cyI cyO ad μ) s.heap.size) s (cM cyI cyO ad μ1) H locs → lv_has ls 6 [(3, .int v121), (1, .long v139), (0, .ref (ad 0))] → W p l e (headSpec wsX4_checksum rmX4_checksum).room s m ([.ref (ad 0)] : List Value).toArray below meth c H locs 0 0 (MQ below (QlF (dC, dI) [(cyI, .int), (cyO, .array .int)] (cM cyI cyO ad μ) (cM cyI cyO ad μ_) s.heap.size r) ([.ref (ad 0)] : List Value).toArray s 0 0 (va_A (cM cyI cyO ad μ) s.heap.size)) (F0 m 185 ls []) := by
                intro H locs ls hB hl
                refine lv_iinc (v := (v121 + (1 : Int32))) (lv' := [(3, .int (v121 + (1 : Int32))), (1, .long v139), (0, .ref (ad 0))]) hx hb dX4_checksum_185 hl (k := 0) rfl rfl (by decide) rfl (fun ls hl => ?_)
                refine lv_goto (tgt := 85) hx hb dX4_checksum_188 (by decide) ?_
                have hL118 := el1_r (inj1 hg119) hL118
                exact ih9 _ _ _ _ _ hL118 hB (lv_sub hl [0, 1, 2] rfl)
              have key141 : ∀ (n9 : Nat) (v145 : Int32) (v146 : Int64) (H : Heap) (locs : List Loc) (ls : Array Slot), loopM (fun st => mX4_checksum_L129 fu v121 μ1 st.1 st.2) n9 (v145, v146) = some v139 → Bd (dC, dI) [(cyI, .int), (cyO, .array .int)] (va_A (cM cyI cyO ad μ) s.heap.size) s (cM cyI cyO ad μ1) H locs → lv_has ls 6 [(4, .int v145), (3, .int v121), (1, .long v146), (0, .ref (ad 0))] → W p l e (headSpec wsX4_checksum rmX4_checksum).room s m ([.ref (ad 0)] : List Value).toArray below meth c H locs 0 0 (MQ below (QlF (dC, dI) [(cyI, .int), (cyO, .array .int)] (cM cyI cyO ad μ) (cM cyI cyO ad μ_) s.heap.size r) ([.ref (ad 0)] : List Value).toArray s 0 0 (va_A (cM cyI cyO ad μ) s.heap.size)) (F0 m 129 ls []) := by
                intro n9
                induction n9 with
                | zero => intro v145 v146 H locs ls hL142; exact (loopM_z hL142).elim
                | succ n9 ih9 =>
                  intro v145 v146 H locs ls hL142 hB hl
                  obtain ⟨o147, hg143, hL142⟩ := loopM_s hL142
                  have hg143 : mX4_checksum_L129 fu v121 μ1 v145 v146 = some o147 := hg143
                  unfold mX4_checksum_L129 at hg143
                  refine lv_iload hx hb dX4_checksum_129 (lv_at hl 0 rfl) ?_
                  refine lv_aload_n hx hb dX4_checksum_131 rfl (lv_at hl 3 rfl) ?_
                  refine lv_iload_n hx hb dX4_checksum_132 rfl (lv_at hl 1 rfl) ?_
                  refine lv_iconst (v := (3 : Int32)) hx hb dX4_checksum_133 (by decide) ?_
                  obtain ⟨r148, hc, hg143⟩ := ob1_s hg143
                  refine g_callVi (As := [.int v121, .int (3 : Int32)]) (rest := [.int v145]) ⟨hx, hb, hml, hown, hts⟩ (kX4_ofJourney l dC dI cyI cyO ad H.size hc) (cwV 2 hts gX4_checksum_X4_ofJourney rfl rfl rfl (by decide +kernel) ⟨Nat.le_of_ble_eq_true rfl, Nat.le_of_ble_eq_true rfl⟩) hK hB hA (g_recv (ci := 4) hK hB 0 rfl rfl rfl) rfl hl.1 rfl (Nat.le_of_ble_eq_true rfl) dX4_checksum_134 ⟨Nat.zero_le _, Nat.zero_le _⟩ (fun H locs hB => ?_)
                  refine lv_icmp_ge (tgt := 185) hx hb dX4_checksum_137 (by decide) (fun c149 => ?_) (fun c149 => ?_)
                  · have hg143 := ite_t c149 hg143
                    have hL142 := el1_l (inj1 hg143) hL142
                    have e0 := inj1 hL142
                    subst e0
                    exact kE140 _ _ _ hB (lv_sub hl [1, 2, 3] rfl)
                  · have hg143 := ite_f c149 hg143
                    refine lv_iconst (v := (4 : Int32)) hx hb dX4_checksum_140 (by decide) ?_
                    refine lv_istore (lv' := [(5, .int (4 : Int32)), (4, .int v145), (3, .int v121), (1, .long v146), (0, .ref (ad 0))]) hx hb dX4_checksum_141 hl (by decide) rfl (fun ls hl => ?_)
                    obtain ⟨v155, hL158, hg143⟩ := ob1_s hg143
                    have kE156 : ∀ (H : Heap) (locs : List Loc) (ls : Array Slot), Bd (dC, dI) [(cyI, .int), (cyO, .array .int)] (va_A (cM cyI cyO ad μ) s.heap.size) s (cM cyI cyO ad μ1) H locs → lv_has ls 6 [(4, .int v145), (3, .int v121), (1, .long v155), (0, .ref (ad 0))] → W p l e (headSpec wsX4_checksum rmX4_checksum).room s m ([.ref (ad 0)] : List Value).toArray below meth c H locs 0 0 (MQ below (QlF (dC, dI) [(cyI, .int), (cyO, .array .int)] (cM cyI cyO ad μ) (cM cyI cyO ad μ_) s.heap.size r) ([.ref (ad 0)] : List Value).toArray s 0 0 (va_A (cM cyI cyO ad μ) s.heap.size)) (F0 m 179 ls []) := by
                      intro H locs ls hB hl
                      refine lv_iinc (v := (v145 + (1 : Int32))) (lv' := [(4, .int (v145 + (1 : Int32))), (3, .int v121), (1, .long v155), (0, .ref (ad 0))]) hx hb dX4_checksum_179 hl (k := 0) rfl rfl (by decide) rfl (fun ls hl => ?_)
                      refine lv_goto (tgt := 129) hx hb dX4_checksum_182 (by decide) ?_
                      have hL142 := el1_r (inj1 hg143) hL142
                      exact ih9 _ _ _ _ _ hL142 hB (lv_sub hl [0, 1, 2, 3] rfl)
                    have key157 : ∀ (n9 : Nat) (v161 : Int32) (v162 : Int64) (H : Heap) (locs : List Loc) (ls : Array Slot), loopM (fun st => mX4_checksum_L143 fu v145 v121 μ1 st.1 st.2) n9 (v161, v162) = some v155 → Bd (dC, dI) [(cyI, .int), (cyO, .array .int)] (va_A (cM cyI cyO ad μ) s.heap.size) s (cM cyI cyO ad μ1) H locs → lv_has ls 6 [(5, .int v161), (4, .int v145), (3, .int v121), (1, .long v162), (0, .ref (ad 0))] → W p l e (headSpec wsX4_checksum rmX4_checksum).room s m ([.ref (ad 0)] : List Value).toArray below meth c H locs 0 0 (MQ below (QlF (dC, dI) [(cyI, .int), (cyO, .array .int)] (cM cyI cyO ad μ) (cM cyI cyO ad μ_) s.heap.size r) ([.ref (ad 0)] : List Value).toArray s 0 0 (va_A (cM cyI cyO ad μ) s.heap.size)) (F0 m 143 ls []) := by
                      intro n9
                      induction n9 with
                      | zero => intro v161 v162 H locs ls hL158; exact (loopM_z hL158).elim
                      | succ n9 ih9 =>
                        intro v161 v162 H locs ls hL158 hB hl
                        obtain ⟨o163, hg159, hL158⟩ := loopM_s hL158
                        have hg159 : mX4_checksum_L143 fu v145 v121 μ1 v161 v162 = some o163 := hg159
                        unfold mX4_checksum_L143 at hg159
                        refine lv_iload hx hb dX4_checksum_143 (lv_at hl 0 rfl) ?_
                        refine lv_bipush (v := (6 : Int32)) hx hb dX4_checksum_145 (by decide) ?_
                        refine lv_icmp_gt (tgt := 179) hx hb dX4_checksum_147 (by decide) (fun c164 => ?_) (fun c164 => ?_)
                        · have hg159 := ite_t c164 hg159
                          have hL158 := el1_l (inj1 hg159) hL158
                          have e0 := inj1 hL158
                          subst e0
                          exact kE156 _ _ _ hB (lv_sub hl [1, 2, 3, 4] rfl)
                        · have hg159 := ite_f c164 hg159
                          refine lv_ldc2 (v := (31 : Int64)) hx hb hown hq2 dX4_checksum_150 ?_
                          refine lv_lload_n hx hb dX4_checksum_153 rfl (lv_at hl 3 rfl) ?_
                          refine lv_lmul hx hb dX4_checksum_154 ?_
                          refine lv_aload_n hx hb dX4_checksum_155 rfl (lv_at hl 4 rfl) ?_
                          refine g_get (C := RX4) (T := TX4) (N := 15) hx hb hts hinX4 hown hK hB 0 rfl rfl 8 rfl hq3 rfl rfl dX4_checksum_156 ?_
                          refine lv_aload_n hx hb dX4_checksum_159 rfl (lv_at hl 4 rfl) ?_
                          refine lv_iload_n hx hb dX4_checksum_160 rfl (lv_at hl 2 rfl) ?_
                          refine lv_iload hx hb dX4_checksum_161 (lv_at hl 1 rfl) ?_
                          obtain ⟨r165, hc, hg159⟩ := ob1_s hg159
                          refine g_callVi (As := [.int v121, .int v145]) (rest := [.ref (ad 8), .long ((31 : Int64) * v162)]) ⟨hx, hb, hml, hown, hts⟩ (kX4_stepAt l dC dI cyI cyO ad H.size hc) (cwV 2 hts gX4_checksum_X4_stepAt rfl rfl rfl (by decide +kernel) ⟨Nat.le_of_ble_eq_true rfl, Nat.le_of_ble_eq_true rfl⟩) hK hB hA (g_recv (ci := 4) hK hB 0 rfl rfl rfl) rfl hl.1 rfl (Nat.le_of_ble_eq_true rfl) dX4_checksum_163 ⟨Nat.zero_le _, Nat.zero_le _⟩ (fun H locs hB => ?_)
                          refine lv_iload hx hb dX4_checksum_166 (lv_at hl 0 rfl) ?_
                          refine lv_iadd hx hb dX4_checksum_168 ?_
                          obtain ⟨x166, e9, hg159⟩ := ob1_s hg159
                          refine g_iald hx hb hK hB 2 0 rfl rfl (rd_s e9) dX4_checksum_169 ?_
                          refine lv_i2l hx hb dX4_checksum_170 rfl ?_
                          refine lv_ladd hx hb dX4_checksum_171 ?_
                          refine lv_lstore_n (lv' := [(1, .long (((31 : Int64) * v162) + (x166.toInt64))), (5, .int v161), (4, .int v145), (3, .int v121), (0, .ref (ad 0))]) hx hb dX4_checksum_172 rfl hl (by decide) rfl (fun ls hl => ?_)
                          refine lv_iinc (v := (v161 + (1 : Int32))) (lv' := [(5, .int (v161 + (1 : Int32))), (1, .long (((31 : Int64) * v162) + (x166.toInt64))), (4, .int v145), (3, .int v121), (0, .ref (ad 0))]) hx hb dX4_checksum_173 hl (k := 1) rfl rfl (by decide) rfl (fun ls hl => ?_)
                          refine lv_goto (tgt := 143) hx hb dX4_checksum_176 (by decide) ?_
                          have hL158 := el1_r (inj1 hg159) hL158
                          exact ih9 _ _ _ _ _ hL158 hB (lv_sub hl [0, 2, 3, 1, 4] rfl)
                    exact key157 fu _ _ _ _ _ hL158 hB (lv_sub hl [0, 1, 2, 3, 4] rfl)
              exact key141 fu _ _ _ _ _ hL142 hB (lv_sub hl [0, 1, 2, 3] rfl)
            have key132 : ∀ (n9 : Nat) (v168 : Int32) (v169 : Int64) (H : Heap) (locs : List Loc) (ls : Array Slot), loopM (fun st => mX4_checksum_L98 fu v121 μ1 st.1 st.2) n9 (v168, v169) = some v130 → Bd (dC, dI) [(cyI, .int), (cyO, .array .int)] (va_A (cM cyI cyO ad μ) s.heap.size) s (cM cyI cyO ad μ1) H locs → lv_has ls 6 [(4, .int v168), (3, .int v121), (1, .long v169), (0, .ref (ad 0))] → W p l e (headSpec wsX4_checksum rmX4_checksum).room s m ([.ref (ad 0)] : List Value).toArray below meth c H locs 0 0 (MQ below (QlF (dC, dI) [(cyI, .int), (cyO, .array .int)] (cM cyI cyO ad μ) (cM cyI cyO ad μ_) s.heap.size r) ([.ref (ad 0)] : List Value).toArray s 0 0 (va_A (cM cyI cyO ad μ) s.heap.size)) (F0 m 98 ls []) := by
              intro n9
              induction n9 with
              | zero => intro v168 v169 H locs ls hL133; exact (loopM_z hL133).elim
              | succ n9 ih9 =>
                intro v168 v169 H locs ls hL133 hB hl
                obtain ⟨o170, hg134, hL133⟩ := loopM_s hL133
                have hg134 : mX4_checksum_L98 fu v121 μ1 v168 v169 = some o170 := hg134
                unfold mX4_checksum_L98 at hg134
                refine lv_iload hx hb dX4_checksum_98 (lv_at hl 0 rfl) ?_
                refine lv_bipush (v := (7 : Int32)) hx hb dX4_checksum_100 (by decide) ?_
                refine lv_icmp_ge (tgt := 126) hx hb dX4_checksum_102 (by decide) (fun c171 => ?_) (fun c171 => ?_)
                · have hg134 := ite_t c171 hg134
                  have hL133 := el1_l (inj1 hg134) hL133
                  have e0 := inj1 hL133
                  subst e0
                  exact kE131 _ _ _ hB (lv_sub hl [1, 2, 3] rfl)
                · have hg134 := ite_f c171 hg134
                  refine lv_ldc2 (v := (31 : Int64)) hx hb hown hq2 dX4_checksum_105 ?_
                  refine lv_lload_n hx hb dX4_checksum_108 rfl (lv_at hl 2 rfl) ?_
                  refine lv_lmul hx hb dX4_checksum_109 ?_
                  refine lv_aload_n hx hb dX4_checksum_110 rfl (lv_at hl 3 rfl) ?_
                  refine lv_iload_n hx hb dX4_checksum_111 rfl (lv_at hl 1 rfl) ?_
                  refine lv_iload hx hb dX4_checksum_112 (lv_at hl 0 rfl) ?_
                  obtain ⟨r172, hc, hg134⟩ := ob1_s hg134
                  refine g_callVi (As := [.int v121, .int v168]) (rest := [.long ((31 : Int64) * v169)]) ⟨hx, hb, hml, hown, hts⟩ (kX4_toldJourney l dC dI cyI cyO ad H.size hc) (cwV 2 hts gX4_checksum_X4_toldJourney rfl rfl rfl (by decide +kernel) ⟨Nat.le_of_ble_eq_true rfl, Nat.le_of_ble_eq_true rfl⟩) hK hB hA (g_recv (ci := 4) hK hB 0 rfl rfl rfl) rfl hl.1 rfl (Nat.le_of_ble_eq_true rfl) dX4_checksum_114 ⟨Nat.zero_le _, Nat.zero_le _⟩ (fun H locs hB => ?_)
                  refine lv_i2l hx hb dX4_checksum_117 rfl ?_
                  refine lv_ladd hx hb dX4_checksum_118 ?_
                  refine lv_lstore_n (lv' := [(1, .long (((31 : Int64) * v169) + (r172.toInt64))), (4, .int v168), (3, .int v121), (0, .ref (ad 0))]) hx hb dX4_checksum_119 rfl hl (by decide) rfl (fun ls hl => ?_)
                  refine lv_iinc (v := (v168 + (1 : Int32))) (lv' := [(4, .int (v168 + (1 : Int32))), (1, .long (((31 : Int64) * v169) + (r172.toInt64))), (3, .int v121), (0, .ref (ad 0))]) hx hb dX4_checksum_120 hl (k := 1) rfl rfl (by decide) rfl (fun ls hl => ?_)
                  refine lv_goto (tgt := 98) hx hb dX4_checksum_123 (by decide) ?_
                  have hL133 := el1_r (inj1 hg134) hL133
                  exact ih9 _ _ _ _ _ hL133 hB (lv_sub hl [0, 2, 1, 3] rfl)
            exact key132 fu _ _ _ _ _ hL133 hB (lv_sub hl [0, 1, 2, 3] rfl)
      exact key117 fu _ _ _ _ _ hL118 hB (lv_sub hl [0, 1, 2] rfl)
    have key36 : ∀ (n9 : Nat) (v174 : Int32) (v175 : Int64) (H : Heap) (locs : List Loc) (ls : Array Slot), loopM (fun st => mX4_checksum_L36 fu μ1 st.1 st.2) n9 (v174, v175) = some v34 → Bd (dC, dI) [(cyI, .int), (cyO, .array .int)] (va_A (cM cyI cyO ad μ) s.heap.size) s (cM cyI cyO ad μ1) H locs → lv_has ls 6 [(3, .int v174), (1, .long v175), (0, .ref (ad 0))] → W p l e (headSpec wsX4_checksum rmX4_checksum).room s m ([.ref (ad 0)] : List Value).toArray below meth c H locs 0 0 (MQ below (QlF (dC, dI) [(cyI, .int), (cyO, .array .int)] (cM cyI cyO ad μ) (cM cyI cyO ad μ_) s.heap.size r) ([.ref (ad 0)] : List Value).toArray s 0 0 (va_A (cM cyI cyO ad μ) s.heap.size)) (F0 m 36 ls []) := by
      intro n9
      induction n9 with
      | zero => intro v174 v175 H locs ls hL37; exact (loopM_z hL37).elim
      | succ n9 ih9 =>
        intro v174 v175 H locs ls hL37 hB hl
        obtain ⟨o176, hg38, hL37⟩ := loopM_s hL37
        have hg38 : mX4_checksum_L36 fu μ1 v174 v175 = some o176 := hg38
        unfold mX4_checksum_L36 at hg38
        refine lv_iload_n hx hb dX4_checksum_36 rfl (lv_at hl 0 rfl) ?_
        refine lv_aload_n hx hb dX4_checksum_37 rfl (lv_at hl 2 rfl) ?_
        refine g_get (C := RX4) (T := TX4) (N := 15) hx hb hts hinX4 hown hK hB 0 rfl rfl 8 rfl hq3 rfl rfl dX4_checksum_38 ?_
        refine lv_iconst (v := (1 : Int32)) hx hb dX4_checksum_41 (by decide) ?_
        obtain ⟨x177, e9, hg38⟩ := ob1_s hg38
        refine g_iald hx hb hK hB 2 0 rfl rfl (rd_s e9) dX4_checksum_42 ?_
        refine lv_icmp_ge (tgt := 83) hx hb dX4_checksum_43 (by decide) (fun c178 => ?_) (fun c178 => ?_)
        · have hg38 := ite_t c178 hg38
          have hL37 := el1_l (inj1 hg38) hL37
          have e0 := inj1 hL37
          subst e0
          exact kE35 _ _ _ hB (lv_sub hl [1, 2] rfl)
        · have hg38 := ite_f c178 hg38
          refine lv_iconst (v := (0 : Int32)) hx hb dX4_checksum_46 (by decide) ?_
          refine lv_istore (lv' := [(4, .int (0 : Int32)), (3, .int v174), (1, .long v175), (0, .ref (ad 0))]) hx hb dX4_checksum_47 hl (by decide) rfl (fun ls hl => ?_)
          obtain ⟨v183, hL186, hg38⟩ := ob1_s hg38
          have kE184 : ∀ (H : Heap) (locs : List Loc) (ls : Array Slot), Bd (dC, dI) [(cyI, .int), (cyO, .array .int)] (va_A (cM cyI cyO ad μ) s.heap.size) s (cM cyI cyO ad μ1) H locs → lv_has ls 6 [(3, .int v174), (1, .long v183), (0, .ref (ad 0))] → W p l e (headSpec wsX4_checksum rmX4_checksum).room s m ([.ref (ad 0)] : List Value).toArray below meth c H locs 0 0 (MQ below (QlF (dC, dI) [(cyI, .int), (cyO, .array .int)] (cM cyI cyO ad μ) (cM cyI cyO ad μ_) s.heap.size r) ([.ref (ad 0)] : List Value).toArray s 0 0 (va_A (cM cyI cyO ad μ) s.heap.size)) (F0 m 77 ls []) := by
            intro H locs ls hB hl
            refine lv_iinc (v := (v174 + (1 : Int32))) (lv' := [(3, .int (v174 + (1 : Int32))), (1, .long v183), (0, .ref (ad 0))]) hx hb dX4_checksum_77 hl (k := 0) rfl rfl (by decide) rfl (fun ls hl => ?_)
            refine lv_goto (tgt := 36) hx hb dX4_checksum_80 (by decide) ?_
            have hL37 := el1_r (inj1 hg38) hL37
            exact ih9 _ _ _ _ _ hL37 hB (lv_sub hl [0, 1, 2] rfl)
          have key185 : ∀ (n9 : Nat) (v189 : Int32) (v190 : Int64) (H : Heap) (locs : List Loc) (ls : Array Slot), loopM (fun st => mX4_checksum_L49 fu v174 μ1 st.1 st.2) n9 (v189, v190) = some v183 → Bd (dC, dI) [(cyI, .int), (cyO, .array .int)] (va_A (cM cyI cyO ad μ) s.heap.size) s (cM cyI cyO ad μ1) H locs → lv_has ls 6 [(4, .int v189), (3, .int v174), (1, .long v190), (0, .ref (ad 0))] → W p l e (headSpec wsX4_checksum rmX4_checksum).room s m ([.ref (ad 0)] : List Value).toArray below meth c H locs 0 0 (MQ below (QlF (dC, dI) [(cyI, .int), (cyO, .array .int)] (cM cyI cyO ad μ) (cM cyI cyO ad μ_) s.heap.size r) ([.ref (ad 0)] : List Value).toArray s 0 0 (va_A (cM cyI cyO ad μ) s.heap.size)) (F0 m 49 ls []) := by
            intro n9
            induction n9 with
            | zero => intro v189 v190 H locs ls hL186; exact (loopM_z hL186).elim
            | succ n9 ih9 =>
              intro v189 v190 H locs ls hL186 hB hl
              obtain ⟨o191, hg187, hL186⟩ := loopM_s hL186
              have hg187 : mX4_checksum_L49 fu v174 μ1 v189 v190 = some o191 := hg187
              unfold mX4_checksum_L49 at hg187
              refine lv_iload hx hb dX4_checksum_49 (lv_at hl 0 rfl) ?_
              refine lv_bipush (v := (6 : Int32)) hx hb dX4_checksum_51 (by decide) ?_
              refine lv_icmp_ge (tgt := 77) hx hb dX4_checksum_53 (by decide) (fun c192 => ?_) (fun c192 => ?_)
              · have hg187 := ite_t c192 hg187
                have hL186 := el1_l (inj1 hg187) hL186
                have e0 := inj1 hL186
                subst e0
                exact kE184 _ _ _ hB (lv_sub hl [1, 2, 3] rfl)
              · have hg187 := ite_f c192 hg187
                refine lv_ldc2 (v := (31 : Int64)) hx hb hown hq2 dX4_checksum_56 ?_
                refine lv_lload_n hx hb dX4_checksum_59 rfl (lv_at hl 2 rfl) ?_
                refine lv_lmul hx hb dX4_checksum_60 ?_
                refine lv_aload_n hx hb dX4_checksum_61 rfl (lv_at hl 3 rfl) ?_
                refine lv_iload_n hx hb dX4_checksum_62 rfl (lv_at hl 1 rfl) ?_
                refine lv_iload hx hb dX4_checksum_63 (lv_at hl 0 rfl) ?_
                obtain ⟨r193, hc, hg187⟩ := ob1_s hg187
                refine g_callVi (As := [.int v174, .int v189]) (rest := [.long ((31 : Int64) * v190)]) ⟨hx, hb, hml, hown, hts⟩ (kX4_toldStock l dC dI cyI cyO ad H.size hc) (cwV 2 hts gX4_checksum_X4_toldStock rfl rfl rfl (by decide +kernel) ⟨Nat.le_of_ble_eq_true rfl, Nat.le_of_ble_eq_true rfl⟩) hK hB hA (g_recv (ci := 4) hK hB 0 rfl rfl rfl) rfl hl.1 rfl (Nat.le_of_ble_eq_true rfl) dX4_checksum_65 ⟨Nat.zero_le _, Nat.zero_le _⟩ (fun H locs hB => ?_)
                refine lv_i2l hx hb dX4_checksum_68 rfl ?_
                refine lv_ladd hx hb dX4_checksum_69 ?_
                refine lv_lstore_n (lv' := [(1, .long (((31 : Int64) * v190) + (r193.toInt64))), (4, .int v189), (3, .int v174), (0, .ref (ad 0))]) hx hb dX4_checksum_70 rfl hl (by decide) rfl (fun ls hl => ?_)
                refine lv_iinc (v := (v189 + (1 : Int32))) (lv' := [(4, .int (v189 + (1 : Int32))), (1, .long (((31 : Int64) * v190) + (r193.toInt64))), (3, .int v174), (0, .ref (ad 0))]) hx hb dX4_checksum_71 hl (k := 1) rfl rfl (by decide) rfl (fun ls hl => ?_)
                refine lv_goto (tgt := 49) hx hb dX4_checksum_74 (by decide) ?_
                have hL186 := el1_r (inj1 hg187) hL186
                exact ih9 _ _ _ _ _ hL186 hB (lv_sub hl [0, 2, 1, 3] rfl)
          exact key185 fu _ _ _ _ _ hL186 hB (lv_sub hl [0, 1, 2, 3] rfl)
    exact key36 fu _ _ _ _ _ hL37 hB (lv_sub hl [0, 1, 2] rfl)
  have key9 : ∀ (n9 : Nat) (v195 : Int32) (v196 : Int64) (H : Heap) (locs : List Loc) (ls : Array Slot), loopM (fun st => mX4_checksum_L9 fu μ1 st.1 st.2) n9 (v195, v196) = some v7 → Bd (dC, dI) [(cyI, .int), (cyO, .array .int)] (va_A (cM cyI cyO ad μ) s.heap.size) s (cM cyI cyO ad μ1) H locs → lv_has ls 6 [(3, .int v195), (1, .long v196), (0, .ref (ad 0))] → W p l e (headSpec wsX4_checksum rmX4_checksum).room s m ([.ref (ad 0)] : List Value).toArray below meth c H locs 0 0 (MQ below (QlF (dC, dI) [(cyI, .int), (cyO, .array .int)] (cM cyI cyO ad μ) (cM cyI cyO ad μ_) s.heap.size r) ([.ref (ad 0)] : List Value).toArray s 0 0 (va_A (cM cyI cyO ad μ) s.heap.size)) (F0 m 9 ls []) := by
    intro n9
    induction n9 with
    | zero => intro v195 v196 H locs ls hL10; exact (loopM_z hL10).elim
    | succ n9 ih9 =>
      intro v195 v196 H locs ls hL10 hB hl
      obtain ⟨o197, hg11, hL10⟩ := loopM_s hL10
      have hg11 : mX4_checksum_L9 fu μ1 v195 v196 = some o197 := hg11
      unfold mX4_checksum_L9 at hg11
      refine lv_iload_n hx hb dX4_checksum_9 rfl (lv_at hl 0 rfl) ?_
      refine lv_bipush (v := (10 : Int32)) hx hb dX4_checksum_10 (by decide) ?_
      refine lv_icmp_ge (tgt := 34) hx hb dX4_checksum_12 (by decide) (fun c198 => ?_) (fun c198 => ?_)
      · have hg11 := ite_t c198 hg11
        have hL10 := el1_l (inj1 hg11) hL10
        have e0 := inj1 hL10
        subst e0
        exact kE8 _ _ _ hB (lv_sub hl [1, 2] rfl)
      · have hg11 := ite_f c198 hg11
        refine lv_ldc2 (v := (31 : Int64)) hx hb hown hq2 dX4_checksum_15 ?_
        refine lv_lload_n hx hb dX4_checksum_18 rfl (lv_at hl 1 rfl) ?_
        refine lv_lmul hx hb dX4_checksum_19 ?_
        refine lv_aload_n hx hb dX4_checksum_20 rfl (lv_at hl 2 rfl) ?_
        refine lv_iload_n hx hb dX4_checksum_21 rfl (lv_at hl 0 rfl) ?_
        obtain ⟨r199, hc, hg11⟩ := ob1_s hg11
        refine g_callVi (As := [.int v195]) (rest := [.long ((31 : Int64) * v196)]) ⟨hx, hb, hml, hown, hts⟩ (kX4_told l dC dI cyI cyO ad H.size hc) (cwV 1 hts gX4_checksum_X4_told rfl rfl rfl (by decide +kernel) ⟨Nat.le_of_ble_eq_true rfl, Nat.le_of_ble_eq_true rfl⟩) hK hB hA (g_recv (ci := 4) hK hB 0 rfl rfl rfl) rfl hl.1 rfl (Nat.le_of_ble_eq_true rfl) dX4_checksum_22 ⟨Nat.zero_le _, Nat.zero_le _⟩ (fun H locs hB => ?_)
        refine lv_i2l hx hb dX4_checksum_25 rfl ?_
        refine lv_ladd hx hb dX4_checksum_26 ?_
        refine lv_lstore_n (lv' := [(1, .long (((31 : Int64) * v196) + (r199.toInt64))), (3, .int v195), (0, .ref (ad 0))]) hx hb dX4_checksum_27 rfl hl (by decide) rfl (fun ls hl => ?_)
        refine lv_iinc (v := (v195 + (1 : Int32))) (lv' := [(3, .int (v195 + (1 : Int32))), (1, .long (((31 : Int64) * v196) + (r199.toInt64))), (0, .ref (ad 0))]) hx hb dX4_checksum_28 hl (k := 1) rfl rfl (by decide) rfl (fun ls hl => ?_)
        refine lv_goto (tgt := 9) hx hb dX4_checksum_31 (by decide) ?_
        have hL10 := el1_r (inj1 hg11) hL10
        exact ih9 _ _ _ _ _ hL10 hB (lv_sub hl [0, 1, 2] rfl)
  exact key9 fu _ _ _ _ _ hL10 hB (lv_sub hl [0, 1, 2] rfl)

