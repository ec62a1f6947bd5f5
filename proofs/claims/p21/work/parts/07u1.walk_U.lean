abbrev rmX3_stateAfter : Room := { frames := 7, cells := 2, slots := 12, locals := 142 }

set_option maxHeartbeats 4000000 in
set_option maxRecDepth 100000 in
theorem kX3_stateAfter (l : Launch) (hl0 : l.stackTraces = false) (dC : Nat → ClassId) (dI : Nat → Nat → Nat) (cyI cyB cyO : ClassId) (ua ub up : Nat) (aw as' : Nat → Nat → Nat) (sz : Nat) {fu : Nat} {τs : WS} {n : Nat} {pa : PA} {β : FS} {υ : MS} {ω : WS} {sid : PA} {i1 : Int32} {i2 : Int32} {o : (String ⊕ (Int32 × WS × PA))} (hf : mX3_stateAfter fu τs n pa β υ ω sid i1 i2 = some o) : vx_Met l yX3_stateAfter wsX3_stateAfter rmX3_stateAfter (PcX (dC, dI) [(cyI, .int), (cyB, .byte), (cyO, .object "UndoJourneys$World")] (cU cyI cyB cyO ua ub up aw as' pa β υ ω sid τs n) sz [.ref ua, .int i1, .int i2]) (QiX (dC, dI) [(cyI, .int), (cyB, .byte), (cyO, .object "UndoJourneys$World")] (cU cyI cyB cyO ua ub up aw as' pa β υ ω sid τs n) (fun x => (cU cyI cyB cyO ua ub up aw as' pa β υ (x.2.1) (x.2.2) τs n)) (fun x => (x.1)) sz o) (XF (dC, dI) [(cyI, .int), (cyB, .byte), (cyO, .object "UndoJourneys$World")] (cU cyI cyB cyO ua ub up aw as' pa β υ ω sid τs n) sz o) 2 12 (va_A (cU cyI cyB cyO ua ub up aw as' pa β υ ω sid τs n) sz) := by
  refine vx_ofW (cc := cX3_stateAfter) (maxL := 3) (ret := (some .int)) (by decide) rfl ?_
  intro p e s m args below meth c s₁ B hml ht0 hv
  obtain ⟨rfl, ⟨hsz, hP, hK, hD0⟩, hEX⟩ := hv
  have hx := B.exec
  have hb := B.bytes
  have hr := B.returns
  have hts := atoms_spec (ws := wsX3_stateAfter) B.pre
  have hown : s.vm.findClass RX3 = some m.cls := findClass_of_methodNamed B.named
  have hlocks := B.notSynchronized
  subst hsz
  have hA : ∀ q : Nat, s.heap.size ≤ q → va_A (cU cyI cyB cyO ua ub up aw as' pa β υ ω sid τs n) s.heap.size q := fun q h => Or.inr h
  have hB : Bd (dC, dI) [(cyI, .int), (cyB, .byte), (cyO, .object "UndoJourneys$World")] (va_A (cU cyI cyB cyO ua ub up aw as' pa β υ ω sid τs n) s.heap.size) s (cU cyI cyB cyO ua ub up aw as' pa β υ ω sid τs n) s.heap [] := ⟨hP, hD0.self, va_S.rf⟩
  have hq1 : (Cond.classLink RX3 46 "java/lang/IllegalArgumentException").before _ s = true := hts _ (List.mem_of_getElem? (i := 1) rfl)
  have hq2 : (Cond.initialized "java/lang/IllegalArgumentException").before _ s = true := hts _ (List.mem_of_getElem? (i := 2) rfl)
  have hq3 : (Cond.fieldLink RX3 39 "UndoJourneys" "forecast" "LUndoJourneys$World;").before _ s = true := hts _ (List.mem_of_getElem? (i := 3) rfl)
  have hq4 : (Cond.fieldLink RX3 35 "UndoJourneys" "now" "LUndoJourneys$World;").before _ s = true := hts _ (List.mem_of_getElem? (i := 4) rfl)
  have hq5 : (Cond.fieldLink RX3 138 "UndoJourneys$World" "journeyState" "[I").before _ s = true := hts _ (List.mem_of_getElem? (i := 5) rfl)
  have hinX0 : ∀ w ∈ wsX00, w ∈ wsX3_stateAfter := fun w h => List.mem_cons_of_mem _ (List.mem_append_left _ (List.mem_append_left _ (List.mem_append_right _ h)))
  have hinX2 : ∀ w ∈ wsX20, w ∈ wsX3_stateAfter := fun w h => List.mem_cons_of_mem _ (List.mem_append_left _ (List.mem_append_left _ (List.mem_append_left _ (List.mem_append_right _ h))))
  have hinX3 : ∀ w ∈ wsX30, w ∈ wsX3_stateAfter := fun w h => List.mem_cons_of_mem _ (List.mem_append_left _ (List.mem_append_left _ (List.mem_append_left _ (List.mem_append_left _ (List.mem_append_right _ h)))))
  have hl := lv_entry [.ref ua, .int i1, .int i2] (n := 3) (Nat.le_of_ble_eq_true rfl)
  rw [lg_entry_eq]
  generalize (lg_sl [.ref ua, .int i1, .int i2] ++ List.replicate (3 - (lg_sl [.ref ua, .int i1, .int i2]).length) Slot.unset).toArray = ls at hl ⊢
  have hl : lv_has ls 3 [(0, .ref ua), (1, .int i1), (2, .int i2)] := hl
  clear hP hD0
  suffices main : ∀ (H : Heap) (locs : List Loc), Bd (dC, dI) [(cyI, .int), (cyB, .byte), (cyO, .object "UndoJourneys$World")] (va_A (cU cyI cyB cyO ua ub up aw as' pa β υ ω sid τs n) s.heap.size) s (cU cyI cyB cyO ua ub up aw as' pa β υ ω sid τs n) H locs → W p l e (headSpec wsX3_stateAfter rmX3_stateAfter).room s m ([.ref ua, .int i1, .int i2] : List Value).toArray below meth c H locs 0 0 (vx_MQ below (QiX (dC, dI) [(cyI, .int), (cyB, .byte), (cyO, .object "UndoJourneys$World")] (cU cyI cyB cyO ua ub up aw as' pa β υ ω sid τs n) (fun x => (cU cyI cyB cyO ua ub up aw as' pa β υ (x.2.1) (x.2.2) τs n)) (fun x => (x.1)) s.heap.size o) (XF (dC, dI) [(cyI, .int), (cyB, .byte), (cyO, .object "UndoJourneys$World")] (cU cyI cyB cyO ua ub up aw as' pa β υ ω sid τs n) s.heap.size o) ([.ref ua, .int i1, .int i2] : List Value).toArray s 2 12 (va_A (cU cyI cyB cyO ua ub up aw as' pa β υ ω sid τs n) s.heap.size)) (F0 m 0 ls []) from main _ _ hB
  clear hB
  intro H locs hB
  unfold mX3_stateAfter at hf
  refine lv_aload_n hx hb dX3_stateAfter_0 rfl (lv_at hl 0 rfl) ?_
  refine lv_iload_n hx hb dX3_stateAfter_1 rfl (lv_at hl 1 rfl) ?_
  obtain ⟨o1, hc, hE, hf9⟩ := obX_s hf
  refine g_chkV (As := [.int i1]) (rest := []) ⟨hx, hb, hml, hown, hts⟩ hEX (kX3_checkJourney l hl0 dC dI cyI cyB cyO ua ub up aw as' H.size hc) (cwV 1 hts gX3_stateAfter_X3_checkJourney rfl rfl rfl (by decide +kernel) ⟨Nat.le_of_ble_eq_true rfl, Nat.le_of_ble_eq_true rfl⟩) hK hB hA (g_recv (ci := 3) hK hB 0 rfl rfl rfl) ht0 hlocks rfl hE rfl hl.1 rfl (Nat.le_of_ble_eq_true rfl) dX3_stateAfter_2 ⟨Nat.le_of_ble_eq_true rfl, Nat.le_of_ble_eq_true rfl⟩ (Nat.le_of_ble_eq_true rfl) (Nat.le_of_ble_eq_true rfl) (fun ho9 H locs hB => ?_)
  have hf := hf9 () ho9
  refine lv_iload_n hx hb dX3_stateAfter_5 rfl (lv_at hl 2 rfl) ?_
  obtain ⟨t2, hD3, hf⟩ := ob1_s hf
  have kTt2 : t2 = true → ∀ (H : Heap) (locs : List Loc), Bd (dC, dI) [(cyI, .int), (cyB, .byte), (cyO, .object "UndoJourneys$World")] (va_A (cU cyI cyB cyO ua ub up aw as' pa β υ ω sid τs n) s.heap.size) s (cU cyI cyB cyO ua ub up aw as' pa β υ ω sid τs n) H locs → W p l e (headSpec wsX3_stateAfter rmX3_stateAfter).room s m ([.ref ua, .int i1, .int i2] : List Value).toArray below meth c H locs 1 6 (vx_MQ below (QiX (dC, dI) [(cyI, .int), (cyB, .byte), (cyO, .object "UndoJourneys$World")] (cU cyI cyB cyO ua ub up aw as' pa β υ ω sid τs n) (fun x => (cU cyI cyB cyO ua ub up aw as' pa β υ (x.2.1) (x.2.2) τs n)) (fun x => (x.1)) s.heap.size o) (XF (dC, dI) [(cyI, .int), (cyB, .byte), (cyO, .object "UndoJourneys$World")] (cU cyI cyB cyO ua ub up aw as' pa β υ ω sid τs n) s.heap.size o) ([.ref ua, .int i1, .int i2] : List Value).toArray s 2 12 (va_A (cU cyI cyB cyO ua ub up aw as' pa β υ ω sid τs n) s.heap.size)) (F0 m 16 ls []) := by
    intro ht H locs hB
    have hf := cnd_t ht hf
    have e0 := inj1 hf
    refine g_throw (names := ["java/lang/RuntimeException", "java/lang/Exception"]) hl0 hx hb hown hEX ht0 hlocks hK hB rfl e0.symm hml hl.1 (by decide) (by decide) hq1 hq2 (List.mem_of_getElem? (i := 3) rfl) (fun w h => hts w (List.mem_cons_of_mem _ (List.mem_append_left _ (List.mem_append_right _ h)))) (by decide +kernel) (by decide +kernel) dX3_stateAfter_16 dX3_stateAfter_19 dX3_stateAfter_20 dX3_stateAfter_22 dX3_stateAfter_25 (Nat.le_of_ble_eq_true rfl) (Nat.le_of_ble_eq_true rfl) (Nat.le_of_ble_eq_true rfl) (Nat.le_of_ble_eq_true rfl) (Nat.le_of_ble_eq_true rfl) (Nat.le_of_ble_eq_true rfl)
  have kFt2 : t2 = false → ∀ (H : Heap) (locs : List Loc), Bd (dC, dI) [(cyI, .int), (cyB, .byte), (cyO, .object "UndoJourneys$World")] (va_A (cU cyI cyB cyO ua ub up aw as' pa β υ ω sid τs n) s.heap.size) s (cU cyI cyB cyO ua ub up aw as' pa β υ ω sid τs n) H locs → W p l e (headSpec wsX3_stateAfter rmX3_stateAfter).room s m ([.ref ua, .int i1, .int i2] : List Value).toArray below meth c H locs 1 6 (vx_MQ below (QiX (dC, dI) [(cyI, .int), (cyB, .byte), (cyO, .object "UndoJourneys$World")] (cU cyI cyB cyO ua ub up aw as' pa β υ ω sid τs n) (fun x => (cU cyI cyB cyO ua ub up aw as' pa β υ (x.2.1) (x.2.2) τs n)) (fun x => (x.1)) s.heap.size o) (XF (dC, dI) [(cyI, .int), (cyB, .byte), (cyO, .object "UndoJourneys$World")] (cU cyI cyB cyO ua ub up aw as' pa β υ ω sid τs n) s.heap.size o) ([.ref ua, .int i1, .int i2] : List Value).toArray s 2 12 (va_A (cU cyI cyB cyO ua ub up aw as' pa β υ ω sid τs n) s.heap.size)) (F0 m 26 ls []) := by
    intro ht H locs hB
    have hf := cnd_f ht hf
    refine lv_aload_n hx hb dX3_stateAfter_26 rfl (lv_at hl 0 rfl) ?_
    refine g_get (C := RX3) (T := TX3) (N := 7) hx hb hts hinX3 hown hK hB 0 rfl rfl 4 rfl hq3 rfl rfl dX3_stateAfter_27 ?_
    refine lv_aload_n hx hb dX3_stateAfter_30 rfl (lv_at hl 0 rfl) ?_
    refine g_get (C := RX3) (T := TX3) (N := 7) hx hb hts hinX3 hown hK hB 0 rfl rfl 3 rfl hq4 rfl rfl dX3_stateAfter_31 ?_
    obtain ⟨_, g6, hf⟩ := ob1_s hf
    have g6 := gC_s g6
    obtain ⟨σ7, hc, hf⟩ := ob1_s hf
    obtain ⟨ω8, e9, hf⟩ := ob1_s hf
    have e9 := inj1 e9
    obtain ⟨sid9, e8, hf⟩ := ob1_s hf
    have e8 := inj1 e8
    refine g_pcutVv (As := [.ref (aw 0 0)]) (rest := []) (w2 := (cU cyI cyB cyO ua ub up aw as' pa β υ ω8 sid9 τs n)) ⟨hx, hb, hml, hown, hts⟩ (kX2_copyFrom (bs := as' (sid 1) 0) l dC dI cyI (aw 1) (aw 0) (as' (sid 0) 0) H.size hc) (cwV 1 hts gX3_stateAfter_X2_copyFrom rfl rfl rfl (by decide +kernel) ⟨Nat.le_of_ble_eq_true rfl, Nat.le_of_ble_eq_true rfl⟩) (hK.sub [0] rfl) hB hA (g_recv (ci := 2) hK (hB.perm (cU_view2 cyI cyB cyO ua ub up aw as' pa β υ ω sid τs n g6.1 g6.2.1 g6.2.2.1)) 0 rfl rfl rfl) (cU_view2 cyI cyB cyO ua ub up aw as' pa β υ ω sid τs n g6.1 g6.2.1 g6.2.2.1) (by rw [← e9, ← e8]; exact cU_back2 cyI cyB cyO ua ub up aw as' pa β υ ω sid τs n g6.1 g6.2.1 g6.2.2.1 σ7) rfl hl.1 rfl (Nat.le_of_ble_eq_true rfl) dX3_stateAfter_34 ⟨Nat.le_of_ble_eq_true rfl, Nat.le_of_ble_eq_true rfl⟩ (fun H locs hB => ?_)
    refine lv_aload_n hx hb dX3_stateAfter_37 rfl (lv_at hl 0 rfl) ?_
    refine g_get (C := RX3) (T := TX3) (N := 7) hx hb hts hinX3 hown hK hB 0 rfl rfl 4 rfl hq3 rfl rfl dX3_stateAfter_38 ?_
    refine lv_iload_n hx hb dX3_stateAfter_41 rfl (lv_at hl 2 rfl) ?_
    refine lv_iload_n hx hb dX3_stateAfter_42 rfl (lv_at hl 1 rfl) ?_
    obtain ⟨_, g10, hf⟩ := ob1_s hf
    have g10 := gW_s g10
    obtain ⟨σ11, hc, hf⟩ := ob1_s hf
    obtain ⟨ω12, e9, hf⟩ := ob1_s hf
    have e9 := inj1 e9
    refine g_pcutVv (As := [.int i2, .int i1]) (rest := []) (w2 := (cU cyI cyB cyO ua ub up aw as' pa β υ ω12 sid9 τs n)) ⟨hx, hb, hml, hown, hts⟩ (kX2_passTicks l dC dI cyI (aw 1) (as' (sid9 1)) H.size hc) (cwV 2 hts gX3_stateAfter_X2_passTicks rfl rfl rfl (by decide +kernel) ⟨Nat.le_of_ble_eq_true rfl, Nat.le_of_ble_eq_true rfl⟩) (hK.sub [0] rfl) hB hA (g_recv (ci := 2) hK (hB.perm (cU_view cyI cyB cyO ua ub up aw as' pa β υ ω8 sid9 τs n g10)) 0 rfl rfl rfl) (cU_view cyI cyB cyO ua ub up aw as' pa β υ ω8 sid9 τs n g10) (by rw [← e9]; exact cU_back cyI cyB cyO ua ub up aw as' pa β υ ω8 sid9 τs n g10 σ11) rfl hl.1 rfl (Nat.le_of_ble_eq_true rfl) dX3_stateAfter_43 ⟨Nat.le_of_ble_eq_true rfl, Nat.le_of_ble_eq_true rfl⟩ (fun H locs hB => ?_)
    refine lv_aload_n hx hb dX3_stateAfter_46 rfl (lv_at hl 0 rfl) ?_
    refine g_get (C := RX3) (T := TX3) (N := 7) hx hb hts hinX3 hown hK hB 0 rfl rfl 4 rfl hq3 rfl rfl dX3_stateAfter_47 ?_
    obtain ⟨_, g13, hf⟩ := ob1_s hf
    have g13 := gW_s g13
    refine g_get (C := RX2) (T := TX2) (N := 14) hx hb hts hinX2 hown hK (hB.perm (cU_view cyI cyB cyO ua ub up aw as' pa β υ ω12 sid9 τs n g13)) 0 rfl rfl 5 rfl hq5 rfl rfl dX3_stateAfter_50 ?_
    refine lv_iload_n hx hb dX3_stateAfter_53 rfl (lv_at hl 1 rfl) ?_
    obtain ⟨_, g14, hf⟩ := ob1_s hf
    have g14 := gW_s g14
    obtain ⟨x15, e9, hf⟩ := ob1_s hf
    refine g_iald hx hb hK (hB.perm (cU_view cyI cyB cyO ua ub up aw as' pa β υ ω12 sid9 τs n g14)) 3 0 rfl rfl (rd_s e9) dX3_stateAfter_54 ?_
    have e0 := inj1 hf
    exact g_xiret (x := (x15, ω12, sid9)) hx hb hr hlocks hK hB e0.symm (Nat.le_of_ble_eq_true rfl) (Nat.le_of_ble_eq_true rfl) dX3_stateAfter_55
  refine lv_if_lt (tgt := 16) hx hb dX3_stateAfter_6 (by decide) (fun c4 => ?_) (fun c4 => ?_)
  · have hD3 := ite_t c4 hD3
    have e0 := inj1 hD3
    exact kTt2 e0.symm _ _ hB
  · have hD3 := ite_f c4 hD3
    refine lv_iload_n hx hb dX3_stateAfter_9 rfl (lv_at hl 2 rfl) ?_
    refine lv_sipush (v := (3000 : Int32)) hx hb dX3_stateAfter_10 (by decide) ?_
    refine lv_icmp_le (tgt := 26) hx hb dX3_stateAfter_13 (by decide) (fun c5 => ?_) (fun c5 => ?_)
    · have hD3 := ite_t c5 hD3
      have e0 := inj1 hD3
      exact kFt2 e0.symm _ _ hB
    · have hD3 := ite_f c5 hD3
      have e0 := inj1 hD3
      exact kTt2 e0.symm _ _ hB

abbrev rmX3_help : Room := { frames := 7, cells := 2, slots := 12, locals := 142 }

set_option maxHeartbeats 4000000 in
set_option maxRecDepth 100000 in
theorem kX3_help (l : Launch) (hl0 : l.stackTraces = false) (dC : Nat → ClassId) (dI : Nat → Nat → Nat) (cyI cyB cyO : ClassId) (ua ub up : Nat) (aw as' : Nat → Nat → Nat) (sz : Nat) {fu : Nat} {τs : WS} {n : Nat} {pa : PA} {β : FS} {υ : MS} {ω : WS} {sid : PA} {i1 : Int32} {i2 : Int32} {o : (String ⊕ (Int32 × WS × PA))} (hf : mX3_help fu τs n pa β υ ω sid i1 i2 = some o) : vx_Met l yX3_help wsX3_help rmX3_help (PcX (dC, dI) [(cyI, .int), (cyB, .byte), (cyO, .object "UndoJourneys$World")] (cU cyI cyB cyO ua ub up aw as' pa β υ ω sid τs n) sz [.ref ua, .int i1, .int i2]) (QiX (dC, dI) [(cyI, .int), (cyB, .byte), (cyO, .object "UndoJourneys$World")] (cU cyI cyB cyO ua ub up aw as' pa β υ ω sid τs n) (fun x => (cU cyI cyB cyO ua ub up aw as' pa β υ (x.2.1) (x.2.2) τs n)) (fun x => (x.1)) sz o) (XF (dC, dI) [(cyI, .int), (cyB, .byte), (cyO, .object "UndoJourneys$World")] (cU cyI cyB cyO ua ub up aw as' pa β υ ω sid τs n) sz o) 2 12 (va_A (cU cyI cyB cyO ua ub up aw as' pa β υ ω sid τs n) sz) := by
  refine vx_ofW (cc := cX3_help) (maxL := 4) (ret := (some .int)) (by decide) rfl ?_
  intro p e s m args below meth c s₁ B hml ht0 hv
  obtain ⟨rfl, ⟨hsz, hP, hK, hD0⟩, hEX⟩ := hv
  have hx := B.exec
  have hb := B.bytes
  have hr := B.returns
  have hts := atoms_spec (ws := wsX3_help) B.pre
  have hown : s.vm.findClass RX3 = some m.cls := findClass_of_methodNamed B.named
  have hlocks := B.notSynchronized
  subst hsz
  have hA : ∀ q : Nat, s.heap.size ≤ q → va_A (cU cyI cyB cyO ua ub up aw as' pa β υ ω sid τs n) s.heap.size q := fun q h => Or.inr h
  have hB : Bd (dC, dI) [(cyI, .int), (cyB, .byte), (cyO, .object "UndoJourneys$World")] (va_A (cU cyI cyB cyO ua ub up aw as' pa β υ ω sid τs n) s.heap.size) s (cU cyI cyB cyO ua ub up aw as' pa β υ ω sid τs n) s.heap [] := ⟨hP, hD0.self, va_S.rf⟩
  have hq1 : (Cond.fieldLink RX3 39 "UndoJourneys" "forecast" "LUndoJourneys$World;").before _ s = true := hts _ (List.mem_of_getElem? (i := 1) rfl)
  have hq2 : (Cond.fieldLink RX3 35 "UndoJourneys" "now" "LUndoJourneys$World;").before _ s = true := hts _ (List.mem_of_getElem? (i := 2) rfl)
  have hq3 : (Cond.fieldLink RX3 141 "UndoJourneys$World" "level" "[I").before _ s = true := hts _ (List.mem_of_getElem? (i := 3) rfl)
  have hq4 : (Cond.fieldLink RX3 138 "UndoJourneys$World" "journeyState" "[I").before _ s = true := hts _ (List.mem_of_getElem? (i := 4) rfl)
  have hq5 : (Cond.fieldLink RX3 144 "UndoJourneys$World" "leastLack" "[I").before _ s = true := hts _ (List.mem_of_getElem? (i := 5) rfl)
  have hq6 : (Cond.methodLink RX3 147 Lib.Math.max.name).before _ s = true := hts _ (List.mem_of_getElem? (i := 6) rfl)
  have hq7 : (Cond.static Lib.Math.max.name).before _ s = true := hts _ (List.mem_of_getElem? (i := 7) rfl)
  have hq8 : (Cond.initialized "java/lang/Math").before _ s = true := hts _ (List.mem_of_getElem? (i := 8) rfl)
  have hq9 : (Cond.code Lib.Math.max.name Lib.Math.max.code 2 (some .int)).before _ s = true := hts _ (List.mem_of_getElem? (i := 9) rfl)
  have hinX0 : ∀ w ∈ wsX00, w ∈ wsX3_help := fun w h => List.mem_cons_of_mem _ (List.mem_append_left _ (List.mem_append_right _ h))
  have hinX2 : ∀ w ∈ wsX20, w ∈ wsX3_help := fun w h => List.mem_cons_of_mem _ (List.mem_append_left _ (List.mem_append_left _ (List.mem_append_right _ h)))
  have hinX3 : ∀ w ∈ wsX30, w ∈ wsX3_help := fun w h => List.mem_cons_of_mem _ (List.mem_append_left _ (List.mem_append_left _ (List.mem_append_left _ (List.mem_append_right _ h))))
  have hl := lv_entry [.ref ua, .int i1, .int i2] (n := 4) (Nat.le_of_ble_eq_true rfl)
  rw [lg_entry_eq]
  generalize (lg_sl [.ref ua, .int i1, .int i2] ++ List.replicate (4 - (lg_sl [.ref ua, .int i1, .int i2]).length) Slot.unset).toArray = ls at hl ⊢
  have hl : lv_has ls 4 [(0, .ref ua), (1, .int i1), (2, .int i2)] := hl
  clear hP hD0
  suffices main : ∀ (H : Heap) (locs : List Loc), Bd (dC, dI) [(cyI, .int), (cyB, .byte), (cyO, .object "UndoJourneys$World")] (va_A (cU cyI cyB cyO ua ub up aw as' pa β υ ω sid τs n) s.heap.size) s (cU cyI cyB cyO ua ub up aw as' pa β υ ω sid τs n) H locs → W p l e (headSpec wsX3_help rmX3_help).room s m ([.ref ua, .int i1, .int i2] : List Value).toArray below meth c H locs 0 0 (vx_MQ below (QiX (dC, dI) [(cyI, .int), (cyB, .byte), (cyO, .object "UndoJourneys$World")] (cU cyI cyB cyO ua ub up aw as' pa β υ ω sid τs n) (fun x => (cU cyI cyB cyO ua ub up aw as' pa β υ (x.2.1) (x.2.2) τs n)) (fun x => (x.1)) s.heap.size o) (XF (dC, dI) [(cyI, .int), (cyB, .byte), (cyO, .object "UndoJourneys$World")] (cU cyI cyB cyO ua ub up aw as' pa β υ ω sid τs n) s.heap.size o) ([.ref ua, .int i1, .int i2] : List Value).toArray s 2 12 (va_A (cU cyI cyB cyO ua ub up aw as' pa β υ ω sid τs n) s.heap.size)) (F0 m 0 ls []) from main _ _ hB
  clear hB
  intro H locs hB
  unfold mX3_help at hf
  refine lv_aload_n hx hb dX3_help_0 rfl (lv_at hl 0 rfl) ?_
  refine lv_iload_n hx hb dX3_help_1 rfl (lv_at hl 1 rfl) ?_
  obtain ⟨o1, hc, hE, hf9⟩ := obX_s hf
  refine g_chkV (As := [.int i1]) (rest := []) ⟨hx, hb, hml, hown, hts⟩ hEX (kX3_checkJourney l hl0 dC dI cyI cyB cyO ua ub up aw as' H.size hc) (cwV 1 hts gX3_help_X3_checkJourney rfl rfl rfl (by decide +kernel) ⟨Nat.le_of_ble_eq_true rfl, Nat.le_of_ble_eq_true rfl⟩) hK hB hA (g_recv (ci := 3) hK hB 0 rfl rfl rfl) ht0 hlocks rfl hE rfl hl.1 rfl (Nat.le_of_ble_eq_true rfl) dX3_help_2 ⟨Nat.le_of_ble_eq_true rfl, Nat.le_of_ble_eq_true rfl⟩ (Nat.le_of_ble_eq_true rfl) (Nat.le_of_ble_eq_true rfl) (fun ho9 H locs hB => ?_)
  have hf := hf9 () ho9
  refine lv_aload_n hx hb dX3_help_5 rfl (lv_at hl 0 rfl) ?_
  refine lv_iload_n hx hb dX3_help_6 rfl (lv_at hl 2 rfl) ?_
  obtain ⟨o2, hc, hE, hf9⟩ := obX_s hf
  refine g_chkV (As := [.int i2]) (rest := []) ⟨hx, hb, hml, hown, hts⟩ hEX (kX3_checkStock l hl0 dC dI cyI cyB cyO ua ub up aw as' H.size hc) (cwV 1 hts gX3_help_X3_checkStock rfl rfl rfl (by decide +kernel) ⟨Nat.le_of_ble_eq_true rfl, Nat.le_of_ble_eq_true rfl⟩) hK hB hA (g_recv (ci := 3) hK hB 0 rfl rfl rfl) ht0 hlocks rfl hE rfl hl.1 rfl (Nat.le_of_ble_eq_true rfl) dX3_help_7 ⟨Nat.le_of_ble_eq_true rfl, Nat.le_of_ble_eq_true rfl⟩ (Nat.le_of_ble_eq_true rfl) (Nat.le_of_ble_eq_true rfl) (fun ho9 H locs hB => ?_)
  have hf := hf9 () ho9
  refine lv_iconst (v := (0 : Int32)) hx hb dX3_help_10 (by decide) ?_
  refine lv_istore_n (lv' := [(3, .int (0 : Int32)), (0, .ref ua), (1, .int i1), (2, .int i2)]) hx hb dX3_help_11 rfl hl (by decide) rfl (fun ls hl => ?_)
  obtain ⟨b38, hL36, hf⟩ := ob1_s hf
  have kE34 : ∀ (ω32 : WS) (sid33 : PA) (H : Heap) (locs : List Loc) (ls : Array Slot), Sum.inr (ω32, sid33) = b38 → Bd (dC, dI) [(cyI, .int), (cyB, .byte), (cyO, .object "UndoJourneys$World")] (va_A (cU cyI cyB cyO ua ub up aw as' pa β υ ω sid τs n) s.heap.size) s (cU cyI cyB cyO ua ub up aw as' pa β υ ω32 sid33 τs n) H locs → lv_has ls 4 [] → W p l e (headSpec wsX3_help rmX3_help).room s m ([.ref ua, .int i1, .int i2] : List Value).toArray below meth c H locs 2 12 (vx_MQ below (QiX (dC, dI) [(cyI, .int), (cyB, .byte), (cyO, .object "UndoJourneys$World")] (cU cyI cyB cyO ua ub up aw as' pa β υ ω sid τs n) (fun x => (cU cyI cyB cyO ua ub up aw as' pa β υ (x.2.1) (x.2.2) τs n)) (fun x => (x.1)) s.heap.size o) (XF (dC, dI) [(cyI, .int), (cyB, .byte), (cyO, .object "UndoJourneys$World")] (cU cyI cyB cyO ua ub up aw as' pa β υ ω sid τs n) s.heap.size o) ([.ref ua, .int i1, .int i2] : List Value).toArray s 2 12 (va_A (cU cyI cyB cyO ua ub up aw as' pa β υ ω sid τs n) s.heap.size)) (F0 m 88 ls []) := by
    intro ω32 sid33 H locs ls hb9 hB hl
    have hf := el2_r hb9 hf
    refine lv_iconst (v := (-1 : Int32)) hx hb dX3_help_88 (by decide) ?_
    have e0 := inj1 hf
    exact g_xiret (x := ((-1 : Int32), ω32, sid33)) hx hb hr hlocks hK hB e0.symm (Nat.le_of_ble_eq_true rfl) (Nat.le_of_ble_eq_true rfl) dX3_help_89
  have key35 : ∀ (n9 : Nat) (v39 : Int32) (ω40 : WS) (sid41 : PA) (H : Heap) (locs : List Loc) (ls : Array Slot), loopM (fun st => mX3_help_L12 fu τs n i1 i2 pa β υ st.1 st.2.1 st.2.2) n9 (v39, ω40, sid41) = some b38 → Bd (dC, dI) [(cyI, .int), (cyB, .byte), (cyO, .object "UndoJourneys$World")] (va_A (cU cyI cyB cyO ua ub up aw as' pa β υ ω sid τs n) s.heap.size) s (cU cyI cyB cyO ua ub up aw as' pa β υ ω40 sid41 τs n) H locs → lv_has ls 4 [(3, .int v39), (0, .ref ua), (1, .int i1), (2, .int i2)] → W p l e (headSpec wsX3_help rmX3_help).room s m ([.ref ua, .int i1, .int i2] : List Value).toArray below meth c H locs 2 12 (vx_MQ below (QiX (dC, dI) [(cyI, .int), (cyB, .byte), (cyO, .object "UndoJourneys$World")] (cU cyI cyB cyO ua ub up aw as' pa β υ ω sid τs n) (fun x => (cU cyI cyB cyO ua ub up aw as' pa β υ (x.2.1) (x.2.2) τs n)) (fun x => (x.1)) s.heap.size o) (XF (dC, dI) [(cyI, .int), (cyB, .byte), (cyO, .object "UndoJourneys$World")] (cU cyI cyB cyO ua ub up aw as' pa β υ ω sid τs n) s.heap.size o) ([.ref ua, .int i1, .int i2] : List Value).toArray s 2 12 (va_A (cU cyI cyB cyO ua ub up aw as' pa β υ ω sid τs n) s.heap.size)) (F0 m 12 ls []) := by
    intro n9
    induction n9 with
    | zero => intro v39 ω40 sid41 H locs ls hL36; exact (loopM_z hL36).elim
    | succ n9 ih9 =>
      intro v39 ω40 sid41 H locs ls hL36 hB hl
      obtain ⟨o42, hg37, hL36⟩ := loopM_s hL36
      have hg37 : mX3_help_L12 fu τs n i1 i2 pa β υ v39 ω40 sid41 = some o42 := hg37
      unfold mX3_help_L12 at hg37
      refine lv_iload_n hx hb dX3_help_12 rfl (lv_at hl 0 rfl) ?_
      refine lv_sipush (v := (999 : Int32)) hx hb dX3_help_13 (by decide) ?_
      refine lv_icmp_gt (tgt := 88) hx hb dX3_help_16 (by decide) (fun c43 => ?_) (fun c43 => ?_)
      · have hg37 := ite_t c43 hg37
        have hL36 := el1_l (inj1 hg37) hL36
        exact kE34 _ _ _ _ _ (inj1 hL36) hB (lv_sub hl [] rfl)
      · have hg37 := ite_f c43 hg37
        refine lv_aload_n hx hb dX3_help_19 rfl (lv_at hl 1 rfl) ?_
        refine g_get (C := RX3) (T := TX3) (N := 7) hx hb hts hinX3 hown hK hB 0 rfl rfl 4 rfl hq1 rfl rfl dX3_help_20 ?_
        refine lv_aload_n hx hb dX3_help_23 rfl (lv_at hl 1 rfl) ?_
        refine g_get (C := RX3) (T := TX3) (N := 7) hx hb hts hinX3 hown hK hB 0 rfl rfl 3 rfl hq2 rfl rfl dX3_help_24 ?_
        obtain ⟨_, g44, hg37⟩ := ob1_s hg37
        have g44 := gC_s g44
        obtain ⟨σ45, hc, hg37⟩ := ob1_s hg37
        obtain ⟨ω46, e9, hg37⟩ := ob1_s hg37
        have e9 := inj1 e9
        obtain ⟨sid47, e8, hg37⟩ := ob1_s hg37
        have e8 := inj1 e8
        refine g_pcutVv (As := [.ref (aw 0 0)]) (rest := []) (w2 := (cU cyI cyB cyO ua ub up aw as' pa β υ ω46 sid47 τs n)) ⟨hx, hb, hml, hown, hts⟩ (kX2_copyFrom (bs := as' (sid41 1) 0) l dC dI cyI (aw 1) (aw 0) (as' (sid41 0) 0) H.size hc) (cwV 1 hts gX3_help_X2_copyFrom rfl rfl rfl (by decide +kernel) ⟨Nat.le_of_ble_eq_true rfl, Nat.le_of_ble_eq_true rfl⟩) (hK.sub [0] rfl) hB hA (g_recv (ci := 2) hK (hB.perm (cU_view2 cyI cyB cyO ua ub up aw as' pa β υ ω40 sid41 τs n g44.1 g44.2.1 g44.2.2.1)) 0 rfl rfl rfl) (cU_view2 cyI cyB cyO ua ub up aw as' pa β υ ω40 sid41 τs n g44.1 g44.2.1 g44.2.2.1) (by rw [← e9, ← e8]; exact cU_back2 cyI cyB cyO ua ub up aw as' pa β υ ω40 sid41 τs n g44.1 g44.2.1 g44.2.2.1 σ45) rfl hl.1 rfl (Nat.le_of_ble_eq_true rfl) dX3_help_27 ⟨Nat.le_of_ble_eq_true rfl, Nat.le_of_ble_eq_true rfl⟩ (fun H locs hB => ?_)
        refine lv_aload_n hx hb dX3_help_30 rfl (lv_at hl 1 rfl) ?_
        refine g_get (C := RX3) (T := TX3) (N := 7) hx hb hts hinX3 hown hK hB 0 rfl rfl 4 rfl hq1 rfl rfl dX3_help_31 ?_
        obtain ⟨_, g48, hg37⟩ := ob1_s hg37
        have g48 := gW_s g48
        refine g_get (C := RX2) (T := TX2) (N := 14) hx hb hts hinX2 hown hK (hB.perm (cU_view cyI cyB cyO ua ub up aw as' pa β υ ω46 sid47 τs n g48)) 0 rfl rfl 3 rfl hq3 rfl rfl dX3_help_34 ?_
        refine lv_iload_n hx hb dX3_help_37 rfl (lv_at hl 3 rfl) ?_
        refine lv_dup2_11 hx hb dX3_help_38 rfl rfl ?_
        obtain ⟨_, g49, hg37⟩ := ob1_s hg37
        have g49 := gW_s g49
        obtain ⟨x50, e9, hg37⟩ := ob1_s hg37
        refine g_iald hx hb hK (hB.perm (cU_view cyI cyB cyO ua ub up aw as' pa β υ ω46 sid47 τs n g49)) 1 0 rfl rfl (rd_s e9) dX3_help_39 ?_
        refine lv_iload_n hx hb dX3_help_40 rfl (lv_at hl 0 rfl) ?_
        refine lv_iadd hx hb dX3_help_41 ?_
        obtain ⟨_, g51, hg37⟩ := ob1_s hg37
        have g51 := gW_s g51
        obtain ⟨σ52, e9, hg37⟩ := ob1_s hg37
        obtain ⟨hi, e9⟩ := wra_s e9
        obtain ⟨ω53, e8, hg37⟩ := ob1_s hg37
        have e8 := inj1 e8
        refine g_iast hx hb hK (hB.perm (cU_view cyI cyB cyO ua ub up aw as' pa β υ ω46 sid47 τs n g51)) 1 0 rfl rfl hi rfl dX3_help_42 (w2 := cW cyI (aw 1) (as' (sid47 1)) (τs (sid47 1)) σ52 ++ rU cyI cyB cyO ua ub up aw as' pa β υ ω46 sid47 τs n 1) (by rw [← e9]; rfl) (fun H locs hB => ?_)
        have hB := hB.perm (cU_back cyI cyB cyO ua ub up aw as' pa β υ ω46 sid47 τs n g51 σ52)
        rw [e8] at hB
        refine lv_aload_n hx hb dX3_help_43 rfl (lv_at hl 1 rfl) ?_
        refine g_get (C := RX3) (T := TX3) (N := 7) hx hb hts hinX3 hown hK hB 0 rfl rfl 4 rfl hq1 rfl rfl dX3_help_44 ?_
        refine lv_sipush (v := (1100 : Int32)) hx hb dX3_help_47 (by decide) ?_
        refine lv_iload_n hx hb dX3_help_50 rfl (lv_at hl 2 rfl) ?_
        obtain ⟨_, g54, hg37⟩ := ob1_s hg37
        have g54 := gW_s g54
        obtain ⟨σ55, hc, hg37⟩ := ob1_s hg37
        obtain ⟨ω56, e9, hg37⟩ := ob1_s hg37
        have e9 := inj1 e9
        refine g_pcutVv (As := [.int (1100 : Int32), .int i1]) (rest := []) (w2 := (cU cyI cyB cyO ua ub up aw as' pa β υ ω56 sid47 τs n)) ⟨hx, hb, hml, hown, hts⟩ (kX2_passTicks l dC dI cyI (aw 1) (as' (sid47 1)) H.size hc) (cwV 2 hts gX3_help_X2_passTicks rfl rfl rfl (by decide +kernel) ⟨Nat.le_of_ble_eq_true rfl, Nat.le_of_ble_eq_true rfl⟩) (hK.sub [0] rfl) hB hA (g_recv (ci := 2) hK (hB.perm (cU_view cyI cyB cyO ua ub up aw as' pa β υ ω53 sid47 τs n g54)) 0 rfl rfl rfl) (cU_view cyI cyB cyO ua ub up aw as' pa β υ ω53 sid47 τs n g54) (by rw [← e9]; exact cU_back cyI cyB cyO ua ub up aw as' pa β υ ω53 sid47 τs n g54 σ55) rfl hl.1 rfl (Nat.le_of_ble_eq_true rfl) dX3_help_51 ⟨Nat.le_of_ble_eq_true rfl, Nat.le_of_ble_eq_true rfl⟩ (fun H locs hB => ?_)
        refine lv_aload_n hx hb dX3_help_54 rfl (lv_at hl 1 rfl) ?_
        refine g_get (C := RX3) (T := TX3) (N := 7) hx hb hts hinX3 hown hK hB 0 rfl rfl 4 rfl hq1 rfl rfl dX3_help_55 ?_
        obtain ⟨_, g57, hg37⟩ := ob1_s hg37
        have g57 := gW_s g57
        refine g_get (C := RX2) (T := TX2) (N := 14) hx hb hts hinX2 hown hK (hB.perm (cU_view cyI cyB cyO ua ub up aw as' pa β υ ω56 sid47 τs n g57)) 0 rfl rfl 5 rfl hq4 rfl rfl dX3_help_58 ?_
        refine lv_iload_n hx hb dX3_help_61 rfl (lv_at hl 2 rfl) ?_
        obtain ⟨_, g58, hg37⟩ := ob1_s hg37
        have g58 := gW_s g58
        obtain ⟨x59, e9, hg37⟩ := ob1_s hg37
        refine g_iald hx hb hK (hB.perm (cU_view cyI cyB cyO ua ub up aw as' pa β υ ω56 sid47 τs n g58)) 3 0 rfl rfl (rd_s e9) dX3_help_62 ?_
        refine lv_iconst (v := (3 : Int32)) hx hb dX3_help_63 (by decide) ?_
        refine lv_icmp_ne (tgt := 69) hx hb dX3_help_64 (by decide) (fun c60 => ?_) (fun c60 => ?_)
        · have hg37 := ite_f c60 hg37
          refine lv_iload_n hx hb dX3_help_69 rfl (lv_at hl 0 rfl) ?_
          refine lv_iconst (v := (1 : Int32)) hx hb dX3_help_70 (by decide) ?_
          refine lv_aload_n hx hb dX3_help_71 rfl (lv_at hl 1 rfl) ?_
          refine g_get (C := RX3) (T := TX3) (N := 7) hx hb hts hinX3 hown hK hB 0 rfl rfl 4 rfl hq1 rfl rfl dX3_help_72 ?_
          obtain ⟨_, g61, hg37⟩ := ob1_s hg37
          have g61 := gW_s g61
          refine g_get (C := RX2) (T := TX2) (N := 14) hx hb hts hinX2 hown hK (hB.perm (cU_view cyI cyB cyO ua ub up aw as' pa β υ ω56 sid47 τs n g61)) 0 rfl rfl 4 rfl hq5 rfl rfl dX3_help_75 ?_
          refine lv_iload_n hx hb dX3_help_78 rfl (lv_at hl 3 rfl) ?_
          obtain ⟨_, g62, hg37⟩ := ob1_s hg37
          have g62 := gW_s g62
          obtain ⟨x63, e9, hg37⟩ := ob1_s hg37
          refine g_iald hx hb hK (hB.perm (cU_view cyI cyB cyO ua ub up aw as' pa β υ ω56 sid47 τs n g62)) 2 0 rfl rfl (rd_s e9) dX3_help_79 ?_
          refine va_mmax hx hb (hml.trans hl.1.symm) hown hq6 hq7 hq8 hq9 (Nat.le_of_ble_eq_true rfl) (Nat.le_of_ble_eq_true rfl) (Nat.le_of_ble_eq_true rfl) (Nat.le_of_ble_eq_true rfl) dX3_help_80 ?_
          refine lv_iadd hx hb dX3_help_83 ?_
          refine lv_istore_n (lv' := [(3, .int (v39 + (if (1 : Int32) < x63 then x63 else (1 : Int32)))), (0, .ref ua), (1, .int i1), (2, .int i2)]) hx hb dX3_help_84 rfl hl (by decide) rfl (fun ls hl => ?_)
          refine lv_goto (tgt := 12) hx hb dX3_help_85 (by decide) ?_
          have hL36 := el1_r (inj1 hg37) hL36
          exact ih9 _ _ _ _ _ _ hL36 hB (lv_sub hl [0, 1, 2, 3] rfl)
        · have hg37 := ite_t c60 hg37
          refine lv_iload_n hx hb dX3_help_67 rfl (lv_at hl 0 rfl) ?_
          have hL36 := el1_l (inj1 hg37) hL36
          have hf := el2_l (inj1 hL36) hf
          have e0 := inj1 hf
          exact g_xiret (x := (v39, ω56, sid47)) hx hb hr hlocks hK hB e0.symm (Nat.le_of_ble_eq_true rfl) (Nat.le_of_ble_eq_true rfl) dX3_help_68
  exact key35 fu _ _ _ _ _ _ hL36 hB (lv_sub hl [0, 1, 2, 3] rfl)

abbrev rmX3_remember : Room := { frames := 2, cells := 0, slots := 0, locals := 61 }

set_option maxHeartbeats 4000000 in
set_option maxRecDepth 100000 in
theorem kX3_remember (l : Launch) (dC : Nat → ClassId) (dI : Nat → Nat → Nat) (cyI cyB cyO : ClassId) (ua ub up : Nat) (aw as' : Nat → Nat → Nat) (sz : Nat) {fu : Nat} {τs : WS} {n : Nat} {pa : PA} {β : FS} {υ : MS} {ω : WS} {sid : PA} {pa_ : PA} {υ_ : MS} {ω_ : WS} {sid_ : PA} (hf : mX3_remember fu τs n pa β υ ω sid = some (pa_, υ_, ω_, sid_)) : Met l yX3_remember wsX3_remember rmX3_remember (PcF (dC, dI) [(cyI, .int), (cyB, .byte), (cyO, .object "UndoJourneys$World")] (cU cyI cyB cyO ua ub up aw as' pa β υ ω sid τs n) sz [.ref ua]) (QvF (dC, dI) [(cyI, .int), (cyB, .byte), (cyO, .object "UndoJourneys$World")] (cU cyI cyB cyO ua ub up aw as' pa β υ ω sid τs n) (cU cyI cyB cyO ua ub up aw as' pa_ β υ_ ω_ sid_ τs n) sz) 0 0 (va_A (cU cyI cyB cyO ua ub up aw as' pa β υ ω sid τs n) sz) := by
  refine Met.ofW (cc := cX3_remember) (maxL := 3) (ret := none) (by decide) rfl ?_
  intro p e s m args below meth c s₁ B hml hv
  obtain ⟨rfl, hsz, hP, hK, hD0⟩ := hv
  have hx := B.exec
  have hb := B.bytes
  have hr := B.returns
  have hts := atoms_spec (ws := wsX3_remember) B.pre
  have hown : s.vm.findClass RX3 = some m.cls := findClass_of_methodNamed B.named
  have hlocks := B.notSynchronized
  subst hsz
  have hA : ∀ q : Nat, s.heap.size ≤ q → va_A (cU cyI cyB cyO ua ub up aw as' pa β υ ω sid τs n) s.heap.size q := fun q h => Or.inr h
  have hB : Bd (dC, dI) [(cyI, .int), (cyB, .byte), (cyO, .object "UndoJourneys$World")] (va_A (cU cyI cyB cyO ua ub up aw as' pa β υ ω sid τs n) s.heap.size) s (cU cyI cyB cyO ua ub up aw as' pa β υ ω sid τs n) s.heap [] := ⟨hP, hD0.self, va_S.rf⟩
  have hq1 : (Cond.fieldLink RX3 26 "UndoJourneys" "undoable" "I").before _ s = true := hts _ (List.mem_of_getElem? (i := 1) rfl)
  have hq2 : (Cond.fieldLink RX3 22 "UndoJourneys" "past" "[LUndoJourneys$World;").before _ s = true := hts _ (List.mem_of_getElem? (i := 2) rfl)
  have hq3 : (Cond.fieldLink RX3 35 "UndoJourneys" "now" "LUndoJourneys$World;").before _ s = true := hts _ (List.mem_of_getElem? (i := 3) rfl)
  have hinX2 : ∀ w ∈ wsX20, w ∈ wsX3_remember := fun w h => List.mem_cons_of_mem _ (List.mem_append_right _ h)
  have hinX3 : ∀ w ∈ wsX30, w ∈ wsX3_remember := fun w h => List.mem_cons_of_mem _ (List.mem_append_left _ (List.mem_append_right _ h))
  have hl := lv_entry [.ref ua] (n := 3) (Nat.le_of_ble_eq_true rfl)
  rw [lg_entry_eq]
  generalize (lg_sl [.ref ua] ++ List.replicate (3 - (lg_sl [.ref ua]).length) Slot.unset).toArray = ls at hl ⊢
  have hl : lv_has ls 3 [(0, .ref ua)] := hl
  clear hP hD0
  suffices main : ∀ (H : Heap) (locs : List Loc), Bd (dC, dI) [(cyI, .int), (cyB, .byte), (cyO, .object "UndoJourneys$World")] (va_A (cU cyI cyB cyO ua ub up aw as' pa β υ ω sid τs n) s.heap.size) s (cU cyI cyB cyO ua ub up aw as' pa β υ ω sid τs n) H locs → W p l e (headSpec wsX3_remember rmX3_remember).room s m ([.ref ua] : List Value).toArray below meth c H locs 0 0 (MQ below (QvF (dC, dI) [(cyI, .int), (cyB, .byte), (cyO, .object "UndoJourneys$World")] (cU cyI cyB cyO ua ub up aw as' pa β υ ω sid τs n) (cU cyI cyB cyO ua ub up aw as' pa_ β υ_ ω_ sid_ τs n) s.heap.size) ([.ref ua] : List Value).toArray s 0 0 (va_A (cU cyI cyB cyO ua ub up aw as' pa β υ ω sid τs n) s.heap.size)) (F0 m 0 ls []) from main _ _ hB
  clear hB
  intro H locs hB
  unfold mX3_remember at hf
  refine lv_aload_n hx hb dX3_remember_0 rfl (lv_at hl 0 rfl) ?_
  refine g_get (C := RX3) (T := TX3) (N := 7) hx hb hts hinX3 hown hK hB 0 rfl rfl 6 rfl hq1 rfl rfl dX3_remember_1 ?_
  refine lv_bipush (v := (8 : Int32)) hx hb dX3_remember_4 (by decide) ?_
  obtain ⟨pa1, υ2, hJ3, hf⟩ := ob2_s hf
  have kJ4 : ∀ (H : Heap) (locs : List Loc) (ls : Array Slot), Bd (dC, dI) [(cyI, .int), (cyB, .byte), (cyO, .object "UndoJourneys$World")] (va_A (cU cyI cyB cyO ua ub up aw as' pa β υ ω sid τs n) s.heap.size) s (cU cyI cyB cyO ua ub up aw as' pa1 β υ2 ω sid τs n) H locs → lv_has ls 3 [(0, .ref ua)] → W p l e (headSpec wsX3_remember rmX3_remember).room s m ([.ref ua] : List Value).toArray below meth c H locs 0 0 (MQ below (QvF (dC, dI) [(cyI, .int), (cyB, .byte), (cyO, .object "UndoJourneys$World")] (cU cyI cyB cyO ua ub up aw as' pa β υ ω sid τs n) (cU cyI cyB cyO ua ub up aw as' pa_ β υ_ ω_ sid_ τs n) s.heap.size) ([.ref ua] : List Value).toArray s 0 0 (va_A (cU cyI cyB cyO ua ub up aw as' pa β υ ω sid τs n) s.heap.size)) (F0 m 66 ls []) := by
    intro H locs ls hB hl
    refine lv_aload_n hx hb dX3_remember_66 rfl (lv_at hl 0 rfl) ?_
    refine g_get (C := RX3) (T := TX3) (N := 7) hx hb hts hinX3 hown hK hB 0 rfl rfl 5 rfl hq2 rfl rfl dX3_remember_67 ?_
    refine lv_aload_n hx hb dX3_remember_70 rfl (lv_at hl 0 rfl) ?_
    refine g_get (C := RX3) (T := TX3) (N := 7) hx hb hts hinX3 hown hK hB 0 rfl rfl 6 rfl hq1 rfl rfl dX3_remember_71 ?_
    obtain ⟨j36, e9, hf⟩ := ob1_s hf
    obtain ⟨hjj36, e9⟩ := hix_s e9
    refine g_aaldq hx hb hK hB 2 2 rfl rfl e9 dX3_remember_74 ?_
    refine lv_aload_n hx hb dX3_remember_75 rfl (lv_at hl 0 rfl) ?_
    refine g_get (C := RX3) (T := TX3) (N := 7) hx hb hts hinX3 hown hK hB 0 rfl rfl 3 rfl hq3 rfl rfl dX3_remember_76 ?_
    obtain ⟨_, g37, hf⟩ := ob1_s hf
    have g37 := gC_s g37
    obtain ⟨σ38, hc, hf⟩ := ob1_s hf
    obtain ⟨ω39, e9, hf⟩ := ob1_s hf
    have e9 := inj1 e9
    obtain ⟨sid40, e8, hf⟩ := ob1_s hf
    have e8 := inj1 e8
    refine g_pcutVv (As := [.ref (aw 0 0)]) (rest := []) (w2 := (cU cyI cyB cyO ua ub up aw as' pa1 β υ2 ω39 sid40 τs n)) ⟨hx, hb, hml, hown, hts⟩ (kX2_copyFrom (bs := as' (sid (pa1 j36)) 0) l dC dI cyI (aw (pa1 j36)) (aw 0) (as' (sid 0) 0) H.size hc) (cwV 1 hts gX3_remember_X2_copyFrom rfl rfl rfl (by decide +kernel) ⟨Nat.le_of_ble_eq_true rfl, Nat.le_of_ble_eq_true rfl⟩) (hK.sub [0] rfl) hB hA (g_recv (ci := 2) hK (hB.perm (cU_view2 cyI cyB cyO ua ub up aw as' pa1 β υ2 ω sid τs n g37.1 g37.2.1 g37.2.2.1)) 0 rfl rfl rfl) (cU_view2 cyI cyB cyO ua ub up aw as' pa1 β υ2 ω sid τs n g37.1 g37.2.1 g37.2.2.1) (by rw [← e9, ← e8]; exact cU_back2 cyI cyB cyO ua ub up aw as' pa1 β υ2 ω sid τs n g37.1 g37.2.1 g37.2.2.1 σ38) rfl hl.1 rfl (Nat.le_of_ble_eq_true rfl) dX3_remember_79 ⟨Nat.le_of_ble_eq_true rfl, Nat.le_of_ble_eq_true rfl⟩ (fun H locs hB => ?_)
    refine lv_aload_n hx hb dX3_remember_82 rfl (lv_at hl 0 rfl) ?_
    refine lv_dup hx hb dX3_remember_83 rfl ?_
    refine g_get (C := RX3) (T := TX3) (N := 7) hx hb hts hinX3 hown hK hB 0 rfl rfl 6 rfl hq1 rfl rfl dX3_remember_84 ?_
    refine lv_iconst (v := (1 : Int32)) hx hb dX3_remember_87 (by decide) ?_
    refine lv_iadd hx hb dX3_remember_88 ?_
    obtain ⟨υ41, e9, hf⟩ := ob1_s hf
    have e9 := inj1 e9
    refine g_put (C := RX3) (T := TX3) (N := 7) hx hb hts hinX3 tyX3 tyX3_ok nmX3 hown hK hB 0 rfl rfl 6 rfl hq1 rfl rfl rfl rfl rfl rfl dX3_remember_89 (w2 := (cU cyI cyB cyO ua ub up aw as' pa1 β υ41 ω39 sid40 τs n)) (by rw [← e9]; rfl) (fun H locs hB => ?_)
    obtain ⟨e0, e1, e2, e3⟩ := inj4 hf
    subst e0
    subst e1
    subst e2
    subst e3
    exact g_vret hx hb hr hlocks hK hB dX3_remember_92
  refine lv_icmp_lt (tgt := 66) hx hb dX3_remember_6 (by decide) (fun c5 => ?_) (fun c5 => ?_)
  · have hJ3 := ite_t c5 hJ3
    obtain ⟨e0, e1⟩ := inj2 hJ3
    subst e0
    subst e1
    exact kJ4 _ _ _ hB (lv_sub hl [0] rfl)
  · have hJ3 := ite_f c5 hJ3
    refine lv_aload_n hx hb dX3_remember_9 rfl (lv_at hl 0 rfl) ?_
    refine g_get (C := RX3) (T := TX3) (N := 7) hx hb hts hinX3 hown hK hB 0 rfl rfl 5 rfl hq2 rfl rfl dX3_remember_10 ?_
    refine lv_iconst (v := (0 : Int32)) hx hb dX3_remember_13 (by decide) ?_
    obtain ⟨j6, e9, hJ3⟩ := ob1_s hJ3
    obtain ⟨hjj6, e9⟩ := hix_s e9
    refine g_aaldq hx hb hK hB 2 2 rfl rfl e9 dX3_remember_14 ?_
    refine lv_astore_n (lv' := [(1, .ref (aw (pa j6) 0)), (0, .ref ua)]) hx hb dX3_remember_15 rfl hl (by decide) rfl (fun ls hl => ?_)
    refine lv_iconst (v := (1 : Int32)) hx hb dX3_remember_16 (by decide) ?_
    refine lv_istore_n (lv' := [(2, .int (1 : Int32)), (1, .ref (aw (pa j6) 0)), (0, .ref ua)]) hx hb dX3_remember_17 rfl hl (by decide) rfl (fun ls hl => ?_)
    obtain ⟨pa18, hL21, hJ3⟩ := ob1_s hJ3
    have kE19 : ∀ (H : Heap) (locs : List Loc) (ls : Array Slot), Bd (dC, dI) [(cyI, .int), (cyB, .byte), (cyO, .object "UndoJourneys$World")] (va_A (cU cyI cyB cyO ua ub up aw as' pa β υ ω sid τs n) s.heap.size) s (cU cyI cyB cyO ua ub up aw as' pa18 β υ ω sid τs n) H locs → lv_has ls 3 [(1, .ref (aw (pa j6) 0)), (0, .ref ua)] → W p l e (headSpec wsX3_remember rmX3_remember).room s m ([.ref ua] : List Value).toArray below meth c H locs 0 0 (MQ below (QvF (dC, dI) [(cyI, .int), (cyB, .byte), (cyO, .object "UndoJourneys$World")] (cU cyI cyB cyO ua ub up aw as' pa β υ ω sid τs n) (cU cyI cyB cyO ua ub up aw as' pa_ β υ_ ω_ sid_ τs n) s.heap.size) ([.ref ua] : List Value).toArray s 0 0 (va_A (cU cyI cyB cyO ua ub up aw as' pa β υ ω sid τs n) s.heap.size)) (F0 m 47 ls []) := by
      intro H locs ls hB hl
      refine lv_aload_n hx hb dX3_remember_47 rfl (lv_at hl 1 rfl) ?_
      refine g_get (C := RX3) (T := TX3) (N := 7) hx hb hts hinX3 hown hK hB 0 rfl rfl 5 rfl hq2 rfl rfl dX3_remember_48 ?_
      refine lv_aload_n hx hb dX3_remember_51 rfl (lv_at hl 1 rfl) ?_
      refine g_get (C := RX3) (T := TX3) (N := 7) hx hb hts hinX3 hown hK hB 0 rfl rfl 5 rfl hq2 rfl rfl dX3_remember_52 ?_
      refine g_alen hx hb hK hB 2 2 rfl rfl (v := (8 : Int32)) rfl dX3_remember_55 ?_
      refine lv_iconst (v := (1 : Int32)) hx hb dX3_remember_56 (by decide) ?_
      refine lv_isub hx hb dX3_remember_57 ?_
      refine lv_aload_n hx hb dX3_remember_58 rfl (lv_at hl 0 rfl) ?_
      obtain ⟨_, g25, hJ3⟩ := ob1_s hJ3
      have g25 := gW_s g25
      obtain ⟨j23, e9, hJ3⟩ := ob1_s hJ3
      obtain ⟨hjj23, hi, e9⟩ := hix_s e9
      obtain ⟨pa24, e8, hJ3⟩ := ob1_s hJ3
      have e8 := inj1 e8
      obtain ⟨kw9, vs9, hw9⟩ := cU_at cyI cyB cyO ua ub up aw as' pa18 β υ ω sid τs n g25.1
      refine g_astq hx hb hK hB 2 2 kw9 2 rfl rfl hw9 rfl hi dX3_remember_59 (w2 := (cU cyI cyB cyO ua ub up aw as' pa24 β υ ω sid τs n)) (by rw [e9, ← e8]; show List.set (cU cyI cyB cyO ua ub up aw as' pa18 β υ ω sid τs n) 2 _ = _; rw [past_up]; rfl) (fun H locs hB => ?_)
      refine lv_aload_n hx hb dX3_remember_60 rfl (lv_at hl 1 rfl) ?_
      refine lv_bipush (v := (7 : Int32)) hx hb dX3_remember_61 (by decide) ?_
      obtain ⟨υ26, e9, hJ3⟩ := ob1_s hJ3
      have e9 := inj1 e9
      refine g_put (C := RX3) (T := TX3) (N := 7) hx hb hts hinX3 tyX3 tyX3_ok nmX3 hown hK hB 0 rfl rfl 6 rfl hq1 rfl rfl rfl rfl rfl rfl dX3_remember_63 (w2 := (cU cyI cyB cyO ua ub up aw as' pa24 β υ26 ω sid τs n)) (by rw [← e9]; rfl) (fun H locs hB => ?_)
      obtain ⟨e0, e1⟩ := inj2 hJ3
      subst e0
      subst e1
      exact kJ4 _ _ _ hB (lv_sub hl [1] rfl)
    have key20 : ∀ (n9 : Nat) (v28 : Int32) (pa29 : PA) (H : Heap) (locs : List Loc) (ls : Array Slot), loopM (fun st => mX3_remember_L18 fu τs n β υ ω sid st.1 st.2) n9 (v28, pa29) = some pa18 → Bd (dC, dI) [(cyI, .int), (cyB, .byte), (cyO, .object "UndoJourneys$World")] (va_A (cU cyI cyB cyO ua ub up aw as' pa β υ ω sid τs n) s.heap.size) s (cU cyI cyB cyO ua ub up aw as' pa29 β υ ω sid τs n) H locs → lv_has ls 3 [(2, .int v28), (1, .ref (aw (pa j6) 0)), (0, .ref ua)] → W p l e (headSpec wsX3_remember rmX3_remember).room s m ([.ref ua] : List Value).toArray below meth c H locs 0 0 (MQ below (QvF (dC, dI) [(cyI, .int), (cyB, .byte), (cyO, .object "UndoJourneys$World")] (cU cyI cyB cyO ua ub up aw as' pa β υ ω sid τs n) (cU cyI cyB cyO ua ub up aw as' pa_ β υ_ ω_ sid_ τs n) s.heap.size) ([.ref ua] : List Value).toArray s 0 0 (va_A (cU cyI cyB cyO ua ub up aw as' pa β υ ω sid τs n) s.heap.size)) (F0 m 18 ls []) := by
      intro n9
      induction n9 with
      | zero => intro v28 pa29 H locs ls hL21; exact (loopM_z hL21).elim
      | succ n9 ih9 =>
        intro v28 pa29 H locs ls hL21 hB hl
        obtain ⟨o30, hg22, hL21⟩ := loopM_s hL21
        have hg22 : mX3_remember_L18 fu τs n β υ ω sid v28 pa29 = some o30 := hg22
        unfold mX3_remember_L18 at hg22
        refine lv_iload_n hx hb dX3_remember_18 rfl (lv_at hl 0 rfl) ?_
        refine lv_aload_n hx hb dX3_remember_19 rfl (lv_at hl 2 rfl) ?_
        refine g_get (C := RX3) (T := TX3) (N := 7) hx hb hts hinX3 hown hK hB 0 rfl rfl 5 rfl hq2 rfl rfl dX3_remember_20 ?_
        refine g_alen hx hb hK hB 2 2 rfl rfl (v := (8 : Int32)) rfl dX3_remember_23 ?_
        refine lv_icmp_ge (tgt := 47) hx hb dX3_remember_24 (by decide) (fun c31 => ?_) (fun c31 => ?_)
        · have hg22 := ite_t c31 hg22
          have hL21 := el1_l (inj1 hg22) hL21
          have e0 := inj1 hL21
          subst e0
          exact kE19 _ _ _ hB (lv_sub hl [1, 2] rfl)
        · have hg22 := ite_f c31 hg22
          refine lv_aload_n hx hb dX3_remember_27 rfl (lv_at hl 2 rfl) ?_
          refine g_get (C := RX3) (T := TX3) (N := 7) hx hb hts hinX3 hown hK hB 0 rfl rfl 5 rfl hq2 rfl rfl dX3_remember_28 ?_
          refine lv_iload_n hx hb dX3_remember_31 rfl (lv_at hl 0 rfl) ?_
          refine lv_iconst (v := (1 : Int32)) hx hb dX3_remember_32 (by decide) ?_
          refine lv_isub hx hb dX3_remember_33 ?_
          refine lv_aload_n hx hb dX3_remember_34 rfl (lv_at hl 2 rfl) ?_
          refine g_get (C := RX3) (T := TX3) (N := 7) hx hb hts hinX3 hown hK hB 0 rfl rfl 5 rfl hq2 rfl rfl dX3_remember_35 ?_
          refine lv_iload_n hx hb dX3_remember_38 rfl (lv_at hl 0 rfl) ?_
          obtain ⟨j32, e9, hg22⟩ := ob1_s hg22
          obtain ⟨hjj32, e9⟩ := hix_s e9
          refine g_aaldq hx hb hK hB 2 2 rfl rfl e9 dX3_remember_39 ?_
          obtain ⟨_, g35, hg22⟩ := ob1_s hg22
          have g35 := gW_s g35
          obtain ⟨j33, e9, hg22⟩ := ob1_s hg22
          obtain ⟨hjj33, hi, e9⟩ := hix_s e9
          obtain ⟨pa34, e8, hg22⟩ := ob1_s hg22
          have e8 := inj1 e8
          obtain ⟨kw9, vs9, hw9⟩ := cU_at cyI cyB cyO ua ub up aw as' pa29 β υ ω sid τs n g35.1
          refine g_astq hx hb hK hB 2 2 kw9 2 rfl rfl hw9 rfl hi dX3_remember_40 (w2 := (cU cyI cyB cyO ua ub up aw as' pa34 β υ ω sid τs n)) (by rw [e9, ← e8]; show List.set (cU cyI cyB cyO ua ub up aw as' pa29 β υ ω sid τs n) 2 _ = _; rw [past_up]; rfl) (fun H locs hB => ?_)
          refine lv_iinc (v := (v28 + (1 : Int32))) (lv' := [(2, .int (v28 + (1 : Int32))), (1, .ref (aw (pa j6) 0)), (0, .ref ua)]) hx hb dX3_remember_41 hl (k := 0) rfl rfl (by decide) rfl (fun ls hl => ?_)
          refine lv_goto (tgt := 18) hx hb dX3_remember_44 (by decide) ?_
          have hL21 := el1_r (inj1 hg22) hL21
          exact ih9 _ _ _ _ _ hL21 hB (lv_sub hl [0, 1, 2] rfl)
    exact key20 fu _ _ _ _ _ hL21 hB (lv_sub hl [0, 1, 2] rfl)

abbrev rmX3_pass : Room := { frames := 6, cells := 1, slots := 6, locals := 142 }

set_option maxHeartbeats 4000000 in
set_option maxRecDepth 100000 in
theorem kX3_pass (l : Launch) (hl0 : l.stackTraces = false) (dC : Nat → ClassId) (dI : Nat → Nat → Nat) (cyI cyB cyO : ClassId) (ua ub up : Nat) (aw as' : Nat → Nat → Nat) (sz : Nat) {fu : Nat} {τs : WS} {n : Nat} {pa : PA} {β : FS} {υ : MS} {ω : WS} {sid : PA} {i1 : Int32} {o : (String ⊕ (Int32 × PA × MS × WS × PA))} (hf : mX3_pass fu τs n pa β υ ω sid i1 = some o) : vx_Met l yX3_pass wsX3_pass rmX3_pass (PcX (dC, dI) [(cyI, .int), (cyB, .byte), (cyO, .object "UndoJourneys$World")] (cU cyI cyB cyO ua ub up aw as' pa β υ ω sid τs n) sz [.ref ua, .int i1]) (QiX (dC, dI) [(cyI, .int), (cyB, .byte), (cyO, .object "UndoJourneys$World")] (cU cyI cyB cyO ua ub up aw as' pa β υ ω sid τs n) (fun x => (cU cyI cyB cyO ua ub up aw as' (x.2.1) β (x.2.2.1) (x.2.2.2.1) (x.2.2.2.2) τs n)) (fun x => (x.1)) sz o) (XF (dC, dI) [(cyI, .int), (cyB, .byte), (cyO, .object "UndoJourneys$World")] (cU cyI cyB cyO ua ub up aw as' pa β υ ω sid τs n) sz o) 1 6 (va_A (cU cyI cyB cyO ua ub up aw as' pa β υ ω sid τs n) sz) := by
  refine vx_ofW (cc := cX3_pass) (maxL := 3) (ret := (some .int)) (by decide) rfl ?_
  intro p e s m args below meth c s₁ B hml ht0 hv
  obtain ⟨rfl, ⟨hsz, hP, hK, hD0⟩, hEX⟩ := hv
  have hx := B.exec
  have hb := B.bytes
  have hr := B.returns
  have hts := atoms_spec (ws := wsX3_pass) B.pre
  have hown : s.vm.findClass RX3 = some m.cls := findClass_of_methodNamed B.named
  have hlocks := B.notSynchronized
  subst hsz
  have hA : ∀ q : Nat, s.heap.size ≤ q → va_A (cU cyI cyB cyO ua ub up aw as' pa β υ ω sid τs n) s.heap.size q := fun q h => Or.inr h
  have hB : Bd (dC, dI) [(cyI, .int), (cyB, .byte), (cyO, .object "UndoJourneys$World")] (va_A (cU cyI cyB cyO ua ub up aw as' pa β υ ω sid τs n) s.heap.size) s (cU cyI cyB cyO ua ub up aw as' pa β υ ω sid τs n) s.heap [] := ⟨hP, hD0.self, va_S.rf⟩
  have hq1 : (Cond.classLink RX3 46 "java/lang/IllegalArgumentException").before _ s = true := hts _ (List.mem_of_getElem? (i := 1) rfl)
  have hq2 : (Cond.initialized "java/lang/IllegalArgumentException").before _ s = true := hts _ (List.mem_of_getElem? (i := 2) rfl)
  have hq3 : (Cond.fieldLink RX3 35 "UndoJourneys" "now" "LUndoJourneys$World;").before _ s = true := hts _ (List.mem_of_getElem? (i := 3) rfl)
  have hq4 : (Cond.fieldLink RX3 133 "UndoJourneys$World" "time" "I").before _ s = true := hts _ (List.mem_of_getElem? (i := 4) rfl)
  have hinX0 : ∀ w ∈ wsX00, w ∈ wsX3_pass := fun w h => List.mem_cons_of_mem _ (List.mem_append_left _ (List.mem_append_right _ h))
  have hinX2 : ∀ w ∈ wsX20, w ∈ wsX3_pass := fun w h => List.mem_cons_of_mem _ (List.mem_append_left _ (List.mem_append_left _ (List.mem_append_right _ h)))
  have hinX3 : ∀ w ∈ wsX30, w ∈ wsX3_pass := fun w h => List.mem_cons_of_mem _ (List.mem_append_left _ (List.mem_append_left _ (List.mem_append_left _ (List.mem_append_right _ h))))
  have hl := lv_entry [.ref ua, .int i1] (n := 3) (Nat.le_of_ble_eq_true rfl)
  rw [lg_entry_eq]
  generalize (lg_sl [.ref ua, .int i1] ++ List.replicate (3 - (lg_sl [.ref ua, .int i1]).length) Slot.unset).toArray = ls at hl ⊢
  have hl : lv_has ls 3 [(0, .ref ua), (1, .int i1)] := hl
  clear hP hD0
  suffices main : ∀ (H : Heap) (locs : List Loc), Bd (dC, dI) [(cyI, .int), (cyB, .byte), (cyO, .object "UndoJourneys$World")] (va_A (cU cyI cyB cyO ua ub up aw as' pa β υ ω sid τs n) s.heap.size) s (cU cyI cyB cyO ua ub up aw as' pa β υ ω sid τs n) H locs → W p l e (headSpec wsX3_pass rmX3_pass).room s m ([.ref ua, .int i1] : List Value).toArray below meth c H locs 0 0 (vx_MQ below (QiX (dC, dI) [(cyI, .int), (cyB, .byte), (cyO, .object "UndoJourneys$World")] (cU cyI cyB cyO ua ub up aw as' pa β υ ω sid τs n) (fun x => (cU cyI cyB cyO ua ub up aw as' (x.2.1) β (x.2.2.1) (x.2.2.2.1) (x.2.2.2.2) τs n)) (fun x => (x.1)) s.heap.size o) (XF (dC, dI) [(cyI, .int), (cyB, .byte), (cyO, .object "UndoJourneys$World")] (cU cyI cyB cyO ua ub up aw as' pa β υ ω sid τs n) s.heap.size o) ([.ref ua, .int i1] : List Value).toArray s 1 6 (va_A (cU cyI cyB cyO ua ub up aw as' pa β υ ω sid τs n) s.heap.size)) (F0 m 0 ls []) from main _ _ hB
  clear hB
  intro H locs hB
  unfold mX3_pass at hf
  refine lv_iload_n hx hb dX3_pass_0 rfl (lv_at hl 1 rfl) ?_
  refine lv_iconst (v := (1 : Int32)) hx hb dX3_pass_1 (by decide) ?_
  obtain ⟨t1, hD2, hf⟩ := ob1_s hf
  have kTt1 : t1 = true → ∀ (H : Heap) (locs : List Loc), Bd (dC, dI) [(cyI, .int), (cyB, .byte), (cyO, .object "UndoJourneys$World")] (va_A (cU cyI cyB cyO ua ub up aw as' pa β υ ω sid τs n) s.heap.size) s (cU cyI cyB cyO ua ub up aw as' pa β υ ω sid τs n) H locs → W p l e (headSpec wsX3_pass rmX3_pass).room s m ([.ref ua, .int i1] : List Value).toArray below meth c H locs 0 0 (vx_MQ below (QiX (dC, dI) [(cyI, .int), (cyB, .byte), (cyO, .object "UndoJourneys$World")] (cU cyI cyB cyO ua ub up aw as' pa β υ ω sid τs n) (fun x => (cU cyI cyB cyO ua ub up aw as' (x.2.1) β (x.2.2.1) (x.2.2.2.1) (x.2.2.2.2) τs n)) (fun x => (x.1)) s.heap.size o) (XF (dC, dI) [(cyI, .int), (cyB, .byte), (cyO, .object "UndoJourneys$World")] (cU cyI cyB cyO ua ub up aw as' pa β υ ω sid τs n) s.heap.size o) ([.ref ua, .int i1] : List Value).toArray s 1 6 (va_A (cU cyI cyB cyO ua ub up aw as' pa β υ ω sid τs n) s.heap.size)) (F0 m 27 ls []) := by
    intro ht H locs hB
    have hf := cnd_t ht hf
    have e0 := inj1 hf
    refine g_throw (names := ["java/lang/RuntimeException", "java/lang/Exception"]) hl0 hx hb hown hEX ht0 hlocks hK hB rfl e0.symm hml hl.1 (by decide) (by decide) hq1 hq2 (List.mem_of_getElem? (i := 3) rfl) (fun w h => hts w (List.mem_cons_of_mem _ (List.mem_append_right _ h))) (by decide +kernel) (by decide +kernel) dX3_pass_27 dX3_pass_30 dX3_pass_31 dX3_pass_33 dX3_pass_36 (Nat.le_of_ble_eq_true rfl) (Nat.le_of_ble_eq_true rfl) (Nat.le_of_ble_eq_true rfl) (Nat.le_of_ble_eq_true rfl) (Nat.le_of_ble_eq_true rfl) (Nat.le_of_ble_eq_true rfl)
  have kFt1 : t1 = false → ∀ (H : Heap) (locs : List Loc), Bd (dC, dI) [(cyI, .int), (cyB, .byte), (cyO, .object "UndoJourneys$World")] (va_A (cU cyI cyB cyO ua ub up aw as' pa β υ ω sid τs n) s.heap.size) s (cU cyI cyB cyO ua ub up aw as' pa β υ ω sid τs n) H locs → W p l e (headSpec wsX3_pass rmX3_pass).room s m ([.ref ua, .int i1] : List Value).toArray below meth c H locs 0 0 (vx_MQ below (QiX (dC, dI) [(cyI, .int), (cyB, .byte), (cyO, .object "UndoJourneys$World")] (cU cyI cyB cyO ua ub up aw as' pa β υ ω sid τs n) (fun x => (cU cyI cyB cyO ua ub up aw as' (x.2.1) β (x.2.2.1) (x.2.2.2.1) (x.2.2.2.2) τs n)) (fun x => (x.1)) s.heap.size o) (XF (dC, dI) [(cyI, .int), (cyB, .byte), (cyO, .object "UndoJourneys$World")] (cU cyI cyB cyO ua ub up aw as' pa β υ ω sid τs n) s.heap.size o) ([.ref ua, .int i1] : List Value).toArray s 1 6 (va_A (cU cyI cyB cyO ua ub up aw as' pa β υ ω sid τs n) s.heap.size)) (F0 m 37 ls []) := by
    intro ht H locs hB
    have hf := cnd_f ht hf
    refine lv_aload_n hx hb dX3_pass_37 rfl (lv_at hl 0 rfl) ?_
    obtain ⟨pa7, υ8, ω9, sid10, hc, hf⟩ := ob4_s hf
    refine g_callVv (As := []) (rest := []) ⟨hx, hb, hml, hown, hts⟩ (kX3_remember l dC dI cyI cyB cyO ua ub up aw as' H.size hc) (cwV 0 hts gX3_pass_X3_remember rfl rfl rfl (by decide +kernel) ⟨Nat.le_of_ble_eq_true rfl, Nat.le_of_ble_eq_true rfl⟩) hK hB hA (g_recv (ci := 3) hK hB 0 rfl rfl rfl) rfl hl.1 rfl (Nat.le_of_ble_eq_true rfl) dX3_pass_38 ⟨Nat.le_of_ble_eq_true rfl, Nat.le_of_ble_eq_true rfl⟩ (fun H locs hB => ?_)
    refine lv_aload_n hx hb dX3_pass_41 rfl (lv_at hl 0 rfl) ?_
    refine g_get (C := RX3) (T := TX3) (N := 7) hx hb hts hinX3 hown hK hB 0 rfl rfl 3 rfl hq3 rfl rfl dX3_pass_42 ?_
    obtain ⟨_, g11, hf⟩ := ob1_s hf
    have g11 := gW_s g11
    obtain ⟨r12, hc, hf⟩ := ob1_s hf
    refine g_pcutVi (As := []) (rest := []) (w2 := (cU cyI cyB cyO ua ub up aw as' pa7 β υ8 ω9 sid10 τs n)) ⟨hx, hb, hml, hown, hts⟩ (kX2_endedJourneys l dC dI cyI (aw 0) (as' (sid10 0)) H.size hc) (cwV 0 hts gX3_pass_X2_endedJourneys rfl rfl rfl (by decide +kernel) ⟨Nat.le_of_ble_eq_true rfl, Nat.le_of_ble_eq_true rfl⟩) (hK.sub [0] rfl) hB hA (g_recv (ci := 2) hK (hB.perm (cU_view cyI cyB cyO ua ub up aw as' pa7 β υ8 ω9 sid10 τs n g11)) 0 rfl rfl rfl) (cU_view cyI cyB cyO ua ub up aw as' pa7 β υ8 ω9 sid10 τs n g11) (cU_view cyI cyB cyO ua ub up aw as' pa7 β υ8 ω9 sid10 τs n g11).symm rfl hl.1 rfl (Nat.le_of_ble_eq_true rfl) dX3_pass_45 ⟨Nat.le_of_ble_eq_true rfl, Nat.le_of_ble_eq_true rfl⟩ (fun H locs hB => ?_)
    refine lv_istore_n (lv' := [(2, .int r12), (0, .ref ua), (1, .int i1)]) hx hb dX3_pass_48 rfl hl (by decide) rfl (fun ls hl => ?_)
    refine lv_aload_n hx hb dX3_pass_49 rfl (lv_at hl 1 rfl) ?_
    refine g_get (C := RX3) (T := TX3) (N := 7) hx hb hts hinX3 hown hK hB 0 rfl rfl 3 rfl hq3 rfl rfl dX3_pass_50 ?_
    refine lv_iload_n hx hb dX3_pass_53 rfl (lv_at hl 2 rfl) ?_
    refine lv_iconst (v := (-1 : Int32)) hx hb dX3_pass_54 (by decide) ?_
    obtain ⟨_, g13, hf⟩ := ob1_s hf
    have g13 := gW_s g13
    obtain ⟨σ14, hc, hf⟩ := ob1_s hf
    obtain ⟨ω15, e9, hf⟩ := ob1_s hf
    have e9 := inj1 e9
    refine g_pcutVv (As := [.int i1, .int (-1 : Int32)]) (rest := []) (w2 := (cU cyI cyB cyO ua ub up aw as' pa7 β υ8 ω15 sid10 τs n)) ⟨hx, hb, hml, hown, hts⟩ (kX2_passTicks l dC dI cyI (aw 0) (as' (sid10 0)) H.size hc) (cwV 2 hts gX3_pass_X2_passTicks rfl rfl rfl (by decide +kernel) ⟨Nat.le_of_ble_eq_true rfl, Nat.le_of_ble_eq_true rfl⟩) (hK.sub [0] rfl) hB hA (g_recv (ci := 2) hK (hB.perm (cU_view cyI cyB cyO ua ub up aw as' pa7 β υ8 ω9 sid10 τs n g13)) 0 rfl rfl rfl) (cU_view cyI cyB cyO ua ub up aw as' pa7 β υ8 ω9 sid10 τs n g13) (by rw [← e9]; exact cU_back cyI cyB cyO ua ub up aw as' pa7 β υ8 ω9 sid10 τs n g13 σ14) rfl hl.1 rfl (Nat.le_of_ble_eq_true rfl) dX3_pass_55 ⟨Nat.le_of_ble_eq_true rfl, Nat.le_of_ble_eq_true rfl⟩ (fun H locs hB => ?_)
    refine lv_aload_n hx hb dX3_pass_58 rfl (lv_at hl 1 rfl) ?_
    refine g_get (C := RX3) (T := TX3) (N := 7) hx hb hts hinX3 hown hK hB 0 rfl rfl 3 rfl hq3 rfl rfl dX3_pass_59 ?_
    obtain ⟨_, g16, hf⟩ := ob1_s hf
    have g16 := gW_s g16
    obtain ⟨r17, hc, hf⟩ := ob1_s hf
    refine g_pcutVi (As := []) (rest := []) (w2 := (cU cyI cyB cyO ua ub up aw as' pa7 β υ8 ω15 sid10 τs n)) ⟨hx, hb, hml, hown, hts⟩ (kX2_endedJourneys l dC dI cyI (aw 0) (as' (sid10 0)) H.size hc) (cwV 0 hts gX3_pass_X2_endedJourneys rfl rfl rfl (by decide +kernel) ⟨Nat.le_of_ble_eq_true rfl, Nat.le_of_ble_eq_true rfl⟩) (hK.sub [0] rfl) hB hA (g_recv (ci := 2) hK (hB.perm (cU_view cyI cyB cyO ua ub up aw as' pa7 β υ8 ω15 sid10 τs n g16)) 0 rfl rfl rfl) (cU_view cyI cyB cyO ua ub up aw as' pa7 β υ8 ω15 sid10 τs n g16) (cU_view cyI cyB cyO ua ub up aw as' pa7 β υ8 ω15 sid10 τs n g16).symm rfl hl.1 rfl (Nat.le_of_ble_eq_true rfl) dX3_pass_62 ⟨Nat.le_of_ble_eq_true rfl, Nat.le_of_ble_eq_true rfl⟩ (fun H locs hB => ?_)
    refine lv_iload_n hx hb dX3_pass_65 rfl (lv_at hl 0 rfl) ?_
    refine lv_isub hx hb dX3_pass_66 ?_
    have e0 := inj1 hf
    exact g_xiret (x := ((r17 - r12), pa7, υ8, ω15, sid10)) hx hb hr hlocks hK hB e0.symm (Nat.le_of_ble_eq_true rfl) (Nat.le_of_ble_eq_true rfl) dX3_pass_67
  refine lv_icmp_lt (tgt := 27) hx hb dX3_pass_2 (by decide) (fun c3 => ?_) (fun c3 => ?_)
  · have hD2 := ite_t c3 hD2
    have e0 := inj1 hD2
    exact kTt1 e0.symm _ _ hB
  · have hD2 := ite_f c3 hD2
    refine lv_iload_n hx hb dX3_pass_5 rfl (lv_at hl 1 rfl) ?_
    refine lv_sipush (v := (200 : Int32)) hx hb dX3_pass_6 (by decide) ?_
    refine lv_icmp_gt (tgt := 27) hx hb dX3_pass_9 (by decide) (fun c4 => ?_) (fun c4 => ?_)
    · have hD2 := ite_t c4 hD2
      have e0 := inj1 hD2
      exact kTt1 e0.symm _ _ hB
    · have hD2 := ite_f c4 hD2
      refine lv_aload_n hx hb dX3_pass_12 rfl (lv_at hl 0 rfl) ?_
      refine g_get (C := RX3) (T := TX3) (N := 7) hx hb hts hinX3 hown hK hB 0 rfl rfl 3 rfl hq3 rfl rfl dX3_pass_13 ?_
      obtain ⟨_, g5, hD2⟩ := ob1_s hD2
      have g5 := gW_s g5
      refine g_get (C := RX2) (T := TX2) (N := 14) hx hb hts hinX2 hown hK (hB.perm (cU_view cyI cyB cyO ua ub up aw as' pa β υ ω sid τs n g5)) 0 rfl rfl 1 rfl hq4 rfl rfl dX3_pass_16 ?_
      refine lv_iload_n hx hb dX3_pass_19 rfl (lv_at hl 1 rfl) ?_
      refine lv_iadd hx hb dX3_pass_20 ?_
      refine lv_sipush (v := (9999 : Int32)) hx hb dX3_pass_21 (by decide) ?_
      refine lv_icmp_le (tgt := 37) hx hb dX3_pass_24 (by decide) (fun c6 => ?_) (fun c6 => ?_)
      · have hD2 := ite_t c6 hD2
        have e0 := inj1 hD2
        exact kFt1 e0.symm _ _ hB
      · have hD2 := ite_f c6 hD2
        have e0 := inj1 hD2
        exact kTt1 e0.symm _ _ hB

abbrev rmX3_checkParked : Room := { frames := 6, cells := 1, slots := 6, locals := 90 }

set_option maxHeartbeats 4000000 in
set_option maxRecDepth 100000 in
theorem kX3_checkParked (l : Launch) (hl0 : l.stackTraces = false) (dC : Nat → ClassId) (dI : Nat → Nat → Nat) (cyI cyB cyO : ClassId) (ua ub up : Nat) (aw as' : Nat → Nat → Nat) (sz : Nat) {fu : Nat} {τs : WS} {n : Nat} {pa : PA} {β : FS} {υ : MS} {ω : WS} {sid : PA} {i1 : Int32} {o : (String ⊕ Unit)} (hf : mX3_checkParked fu τs n pa β υ ω sid i1 = some o) : vx_Met l yX3_checkParked wsX3_checkParked rmX3_checkParked (PcX (dC, dI) [(cyI, .int), (cyB, .byte), (cyO, .object "UndoJourneys$World")] (cU cyI cyB cyO ua ub up aw as' pa β υ ω sid τs n) sz [.ref ua, .int i1]) (QvX (dC, dI) [(cyI, .int), (cyB, .byte), (cyO, .object "UndoJourneys$World")] (cU cyI cyB cyO ua ub up aw as' pa β υ ω sid τs n) (fun x => (cU cyI cyB cyO ua ub up aw as' pa β υ ω sid τs n)) sz o) (XF (dC, dI) [(cyI, .int), (cyB, .byte), (cyO, .object "UndoJourneys$World")] (cU cyI cyB cyO ua ub up aw as' pa β υ ω sid τs n) sz o) 1 6 (va_A (cU cyI cyB cyO ua ub up aw as' pa β υ ω sid τs n) sz) := by
  refine vx_ofW (cc := cX3_checkParked) (maxL := 2) (ret := none) (by decide) rfl ?_
  intro p e s m args below meth c s₁ B hml ht0 hv
  obtain ⟨rfl, ⟨hsz, hP, hK, hD0⟩, hEX⟩ := hv
  have hx := B.exec
  have hb := B.bytes
  have hr := B.returns
  have hts := atoms_spec (ws := wsX3_checkParked) B.pre
  have hown : s.vm.findClass RX3 = some m.cls := findClass_of_methodNamed B.named
  have hlocks := B.notSynchronized
  subst hsz
  have hA : ∀ q : Nat, s.heap.size ≤ q → va_A (cU cyI cyB cyO ua ub up aw as' pa β υ ω sid τs n) s.heap.size q := fun q h => Or.inr h
  have hB : Bd (dC, dI) [(cyI, .int), (cyB, .byte), (cyO, .object "UndoJourneys$World")] (va_A (cU cyI cyB cyO ua ub up aw as' pa β υ ω sid τs n) s.heap.size) s (cU cyI cyB cyO ua ub up aw as' pa β υ ω sid τs n) s.heap [] := ⟨hP, hD0.self, va_S.rf⟩
  have hq1 : (Cond.classLink RX3 186 "java/lang/IllegalStateException").before _ s = true := hts _ (List.mem_of_getElem? (i := 1) rfl)
  have hq2 : (Cond.initialized "java/lang/IllegalStateException").before _ s = true := hts _ (List.mem_of_getElem? (i := 2) rfl)
  have hq3 : (Cond.fieldLink RX3 35 "UndoJourneys" "now" "LUndoJourneys$World;").before _ s = true := hts _ (List.mem_of_getElem? (i := 3) rfl)
  have hq4 : (Cond.fieldLink RX3 138 "UndoJourneys$World" "journeyState" "[I").before _ s = true := hts _ (List.mem_of_getElem? (i := 4) rfl)
  have hinX2 : ∀ w ∈ wsX20, w ∈ wsX3_checkParked := fun w h => List.mem_cons_of_mem _ (List.mem_append_left _ (List.mem_append_right _ h))
  have hinX3 : ∀ w ∈ wsX30, w ∈ wsX3_checkParked := fun w h => List.mem_cons_of_mem _ (List.mem_append_left _ (List.mem_append_left _ (List.mem_append_right _ h)))
  have hl := lv_entry [.ref ua, .int i1] (n := 2) (Nat.le_of_ble_eq_true rfl)
  rw [lg_entry_eq]
  generalize (lg_sl [.ref ua, .int i1] ++ List.replicate (2 - (lg_sl [.ref ua, .int i1]).length) Slot.unset).toArray = ls at hl ⊢
  have hl : lv_has ls 2 [(0, .ref ua), (1, .int i1)] := hl
  clear hP hD0
  suffices main : ∀ (H : Heap) (locs : List Loc), Bd (dC, dI) [(cyI, .int), (cyB, .byte), (cyO, .object "UndoJourneys$World")] (va_A (cU cyI cyB cyO ua ub up aw as' pa β υ ω sid τs n) s.heap.size) s (cU cyI cyB cyO ua ub up aw as' pa β υ ω sid τs n) H locs → W p l e (headSpec wsX3_checkParked rmX3_checkParked).room s m ([.ref ua, .int i1] : List Value).toArray below meth c H locs 0 0 (vx_MQ below (QvX (dC, dI) [(cyI, .int), (cyB, .byte), (cyO, .object "UndoJourneys$World")] (cU cyI cyB cyO ua ub up aw as' pa β υ ω sid τs n) (fun x => (cU cyI cyB cyO ua ub up aw as' pa β υ ω sid τs n)) s.heap.size o) (XF (dC, dI) [(cyI, .int), (cyB, .byte), (cyO, .object "UndoJourneys$World")] (cU cyI cyB cyO ua ub up aw as' pa β υ ω sid τs n) s.heap.size o) ([.ref ua, .int i1] : List Value).toArray s 1 6 (va_A (cU cyI cyB cyO ua ub up aw as' pa β υ ω sid τs n) s.heap.size)) (F0 m 0 ls []) from main _ _ hB
  clear hB
  intro H locs hB
  unfold mX3_checkParked at hf
  refine lv_aload_n hx hb dX3_checkParked_0 rfl (lv_at hl 0 rfl) ?_
  refine g_get (C := RX3) (T := TX3) (N := 7) hx hb hts hinX3 hown hK hB 0 rfl rfl 3 rfl hq3 rfl rfl dX3_checkParked_1 ?_
  obtain ⟨_, g1, hf⟩ := ob1_s hf
  have g1 := gW_s g1
  refine g_get (C := RX2) (T := TX2) (N := 14) hx hb hts hinX2 hown hK (hB.perm (cU_view cyI cyB cyO ua ub up aw as' pa β υ ω sid τs n g1)) 0 rfl rfl 5 rfl hq4 rfl rfl dX3_checkParked_4 ?_
  refine lv_iload_n hx hb dX3_checkParked_7 rfl (lv_at hl 1 rfl) ?_
  obtain ⟨_, g2, hf⟩ := ob1_s hf
  have g2 := gW_s g2
  obtain ⟨x3, e9, hf⟩ := ob1_s hf
  refine g_iald hx hb hK (hB.perm (cU_view cyI cyB cyO ua ub up aw as' pa β υ ω sid τs n g2)) 3 0 rfl rfl (rd_s e9) dX3_checkParked_8 ?_
  refine lv_iconst (v := (5 : Int32)) hx hb dX3_checkParked_9 (by decide) ?_
  refine lv_icmp_eq (tgt := 23) hx hb dX3_checkParked_10 (by decide) (fun c4 => ?_) (fun c4 => ?_)
  · have hf := ite_t c4 hf
    have e0 := inj1 hf
    exact g_xvret (x := ()) hx hb hr hlocks hK hB e0.symm (Nat.le_of_ble_eq_true rfl) (Nat.le_of_ble_eq_true rfl) dX3_checkParked_23
  · have hf := ite_f c4 hf
    have e0 := inj1 hf
    refine g_throw (names := ["java/lang/RuntimeException", "java/lang/Exception"]) hl0 hx hb hown hEX ht0 hlocks hK hB rfl e0.symm hml hl.1 (by decide) (by decide) hq1 hq2 (List.mem_of_getElem? (i := 7) rfl) (fun w h => hts w (List.mem_cons_of_mem _ (List.mem_append_right _ h))) (by decide +kernel) (by decide +kernel) dX3_checkParked_13 dX3_checkParked_16 dX3_checkParked_17 dX3_checkParked_19 dX3_checkParked_22 (Nat.le_of_ble_eq_true rfl) (Nat.le_of_ble_eq_true rfl) (Nat.le_of_ble_eq_true rfl) (Nat.le_of_ble_eq_true rfl) (Nat.le_of_ble_eq_true rfl) (Nat.le_of_ble_eq_true rfl)

abbrev rmX3_settle : Room := { frames := 7, cells := 2, slots := 12, locals := 111 }

set_option maxHeartbeats 4000000 in
set_option maxRecDepth 100000 in
theorem kX3_settle (l : Launch) (hl0 : l.stackTraces = false) (dC : Nat → ClassId) (dI : Nat → Nat → Nat) (cyI cyB cyO : ClassId) (ua ub up : Nat) (aw as' : Nat → Nat → Nat) (sz : Nat) {fu : Nat} {τs : WS} {n : Nat} {pa : PA} {β : FS} {υ : MS} {ω : WS} {sid : PA} {i1 : Int32} {o : (String ⊕ (Int32 × PA × MS × WS × PA))} (hf : mX3_settle fu τs n pa β υ ω sid i1 = some o) : vx_Met l yX3_settle wsX3_settle rmX3_settle (PcX (dC, dI) [(cyI, .int), (cyB, .byte), (cyO, .object "UndoJourneys$World")] (cU cyI cyB cyO ua ub up aw as' pa β υ ω sid τs n) sz [.ref ua, .int i1]) (QiX (dC, dI) [(cyI, .int), (cyB, .byte), (cyO, .object "UndoJourneys$World")] (cU cyI cyB cyO ua ub up aw as' pa β υ ω sid τs n) (fun x => (cU cyI cyB cyO ua ub up aw as' (x.2.1) β (x.2.2.1) (x.2.2.2.1) (x.2.2.2.2) τs n)) (fun x => (x.1)) sz o) (XF (dC, dI) [(cyI, .int), (cyB, .byte), (cyO, .object "UndoJourneys$World")] (cU cyI cyB cyO ua ub up aw as' pa β υ ω sid τs n) sz o) 2 12 (va_A (cU cyI cyB cyO ua ub up aw as' pa β υ ω sid τs n) sz) := by
  refine vx_ofW (cc := cX3_settle) (maxL := 2) (ret := (some .int)) (by decide) rfl ?_
  intro p e s m args below meth c s₁ B hml ht0 hv
  obtain ⟨rfl, ⟨hsz, hP, hK, hD0⟩, hEX⟩ := hv
  have hx := B.exec
  have hb := B.bytes
  have hr := B.returns
  have hts := atoms_spec (ws := wsX3_settle) B.pre
  have hown : s.vm.findClass RX3 = some m.cls := findClass_of_methodNamed B.named
  have hlocks := B.notSynchronized
  subst hsz
  have hA : ∀ q : Nat, s.heap.size ≤ q → va_A (cU cyI cyB cyO ua ub up aw as' pa β υ ω sid τs n) s.heap.size q := fun q h => Or.inr h
  have hB : Bd (dC, dI) [(cyI, .int), (cyB, .byte), (cyO, .object "UndoJourneys$World")] (va_A (cU cyI cyB cyO ua ub up aw as' pa β υ ω sid τs n) s.heap.size) s (cU cyI cyB cyO ua ub up aw as' pa β υ ω sid τs n) s.heap [] := ⟨hP, hD0.self, va_S.rf⟩
  have hq1 : (Cond.fieldLink RX3 35 "UndoJourneys" "now" "LUndoJourneys$World;").before _ s = true := hts _ (List.mem_of_getElem? (i := 1) rfl)
  have hinX0 : ∀ w ∈ wsX00, w ∈ wsX3_settle := fun w h => List.mem_cons_of_mem _ (List.mem_append_left _ (List.mem_append_left _ (List.mem_append_right _ h)))
  have hinX2 : ∀ w ∈ wsX20, w ∈ wsX3_settle := fun w h => List.mem_cons_of_mem _ (List.mem_append_left _ (List.mem_append_left _ (List.mem_append_left _ (List.mem_append_right _ h))))
  have hinX3 : ∀ w ∈ wsX30, w ∈ wsX3_settle := fun w h => List.mem_cons_of_mem _ (List.mem_append_left _ (List.mem_append_left _ (List.mem_append_left _ (List.mem_append_left _ (List.mem_append_right _ h)))))
  have hl := lv_entry [.ref ua, .int i1] (n := 2) (Nat.le_of_ble_eq_true rfl)
  rw [lg_entry_eq]
  generalize (lg_sl [.ref ua, .int i1] ++ List.replicate (2 - (lg_sl [.ref ua, .int i1]).length) Slot.unset).toArray = ls at hl ⊢
  have hl : lv_has ls 2 [(0, .ref ua), (1, .int i1)] := hl
  clear hP hD0
  suffices main : ∀ (H : Heap) (locs : List Loc), Bd (dC, dI) [(cyI, .int), (cyB, .byte), (cyO, .object "UndoJourneys$World")] (va_A (cU cyI cyB cyO ua ub up aw as' pa β υ ω sid τs n) s.heap.size) s (cU cyI cyB cyO ua ub up aw as' pa β υ ω sid τs n) H locs → W p l e (headSpec wsX3_settle rmX3_settle).room s m ([.ref ua, .int i1] : List Value).toArray below meth c H locs 0 0 (vx_MQ below (QiX (dC, dI) [(cyI, .int), (cyB, .byte), (cyO, .object "UndoJourneys$World")] (cU cyI cyB cyO ua ub up aw as' pa β υ ω sid τs n) (fun x => (cU cyI cyB cyO ua ub up aw as' (x.2.1) β (x.2.2.1) (x.2.2.2.1) (x.2.2.2.2) τs n)) (fun x => (x.1)) s.heap.size o) (XF (dC, dI) [(cyI, .int), (cyB, .byte), (cyO, .object "UndoJourneys$World")] (cU cyI cyB cyO ua ub up aw as' pa β υ ω sid τs n) s.heap.size o) ([.ref ua, .int i1] : List Value).toArray s 2 12 (va_A (cU cyI cyB cyO ua ub up aw as' pa β υ ω sid τs n) s.heap.size)) (F0 m 0 ls []) from main _ _ hB
  clear hB
  intro H locs hB
  unfold mX3_settle at hf
  refine lv_aload_n hx hb dX3_settle_0 rfl (lv_at hl 0 rfl) ?_
  refine lv_iload_n hx hb dX3_settle_1 rfl (lv_at hl 1 rfl) ?_
  obtain ⟨o1, hc, hE, hf9⟩ := obX_s hf
  refine g_chkV (As := [.int i1]) (rest := []) ⟨hx, hb, hml, hown, hts⟩ hEX (kX3_checkJourney l hl0 dC dI cyI cyB cyO ua ub up aw as' H.size hc) (cwV 1 hts gX3_settle_X3_checkJourney rfl rfl rfl (by decide +kernel) ⟨Nat.le_of_ble_eq_true rfl, Nat.le_of_ble_eq_true rfl⟩) hK hB hA (g_recv (ci := 3) hK hB 0 rfl rfl rfl) ht0 hlocks rfl hE rfl hl.1 rfl (Nat.le_of_ble_eq_true rfl) dX3_settle_2 ⟨Nat.le_of_ble_eq_true rfl, Nat.le_of_ble_eq_true rfl⟩ (Nat.le_of_ble_eq_true rfl) (Nat.le_of_ble_eq_true rfl) (fun ho9 H locs hB => ?_)
  have hf := hf9 () ho9
  refine lv_aload_n hx hb dX3_settle_5 rfl (lv_at hl 0 rfl) ?_
  refine lv_iload_n hx hb dX3_settle_6 rfl (lv_at hl 1 rfl) ?_
  obtain ⟨o2, hc, hE, hf9⟩ := obX_s hf
  refine g_chkV (As := [.int i1]) (rest := []) ⟨hx, hb, hml, hown, hts⟩ hEX (kX3_checkParked l hl0 dC dI cyI cyB cyO ua ub up aw as' H.size hc) (cwV 1 hts gX3_settle_X3_checkParked rfl rfl rfl (by decide +kernel) ⟨Nat.le_of_ble_eq_true rfl, Nat.le_of_ble_eq_true rfl⟩) hK hB hA (g_recv (ci := 3) hK hB 0 rfl rfl rfl) ht0 hlocks rfl hE rfl hl.1 rfl (Nat.le_of_ble_eq_true rfl) dX3_settle_7 ⟨Nat.le_of_ble_eq_true rfl, Nat.le_of_ble_eq_true rfl⟩ (Nat.le_of_ble_eq_true rfl) (Nat.le_of_ble_eq_true rfl) (fun ho9 H locs hB => ?_)
  have hf := hf9 () ho9
  refine lv_aload_n hx hb dX3_settle_10 rfl (lv_at hl 0 rfl) ?_
  obtain ⟨pa3, υ4, ω5, sid6, hc, hf⟩ := ob4_s hf
  refine g_callVv (As := []) (rest := []) ⟨hx, hb, hml, hown, hts⟩ (kX3_remember l dC dI cyI cyB cyO ua ub up aw as' H.size hc) (cwV 0 hts gX3_settle_X3_remember rfl rfl rfl (by decide +kernel) ⟨Nat.le_of_ble_eq_true rfl, Nat.le_of_ble_eq_true rfl⟩) hK hB hA (g_recv (ci := 3) hK hB 0 rfl rfl rfl) rfl hl.1 rfl (Nat.le_of_ble_eq_true rfl) dX3_settle_11 ⟨Nat.le_of_ble_eq_true rfl, Nat.le_of_ble_eq_true rfl⟩ (fun H locs hB => ?_)
  refine lv_aload_n hx hb dX3_settle_14 rfl (lv_at hl 0 rfl) ?_
  refine g_get (C := RX3) (T := TX3) (N := 7) hx hb hts hinX3 hown hK hB 0 rfl rfl 3 rfl hq1 rfl rfl dX3_settle_15 ?_
  refine lv_iload_n hx hb dX3_settle_18 rfl (lv_at hl 1 rfl) ?_
  refine lv_iconst (v := (5 : Int32)) hx hb dX3_settle_19 (by decide) ?_
  obtain ⟨_, g7, hf⟩ := ob1_s hf
  have g7 := gW_s g7
  obtain ⟨r8, σ9, hc, hf⟩ := ob2_s hf
  obtain ⟨ω10, e9, hf⟩ := ob1_s hf
  have e9 := inj1 e9
  refine g_pcutVi (As := [.int i1, .int (5 : Int32)]) (rest := []) (w2 := (cU cyI cyB cyO ua ub up aw as' pa3 β υ4 ω10 sid6 τs n)) ⟨hx, hb, hml, hown, hts⟩ (kX2_putLastStepAway l dC dI cyI (aw 0) (as' (sid6 0)) H.size hc) (cwV 2 hts gX3_settle_X2_putLastStepAway rfl rfl rfl (by decide +kernel) ⟨Nat.le_of_ble_eq_true rfl, Nat.le_of_ble_eq_true rfl⟩) (hK.sub [0] rfl) hB hA (g_recv (ci := 2) hK (hB.perm (cU_view cyI cyB cyO ua ub up aw as' pa3 β υ4 ω5 sid6 τs n g7)) 0 rfl rfl rfl) (cU_view cyI cyB cyO ua ub up aw as' pa3 β υ4 ω5 sid6 τs n g7) (by rw [← e9]; exact cU_back cyI cyB cyO ua ub up aw as' pa3 β υ4 ω5 sid6 τs n g7 σ9) rfl hl.1 rfl (Nat.le_of_ble_eq_true rfl) dX3_settle_20 ⟨Nat.le_of_ble_eq_true rfl, Nat.le_of_ble_eq_true rfl⟩ (fun H locs hB => ?_)
  have e0 := inj1 hf
  exact g_xiret (x := (r8, pa3, υ4, ω10, sid6)) hx hb hr hlocks hK hB e0.symm (Nat.le_of_ble_eq_true rfl) (Nat.le_of_ble_eq_true rfl) dX3_settle_23

abbrev rmX3_writeOff : Room := { frames := 7, cells := 2, slots := 12, locals := 111 }

set_option maxHeartbeats 4000000 in
set_option maxRecDepth 100000 in
theorem kX3_writeOff (l : Launch) (hl0 : l.stackTraces = false) (dC : Nat → ClassId) (dI : Nat → Nat → Nat) (cyI cyB cyO : ClassId) (ua ub up : Nat) (aw as' : Nat → Nat → Nat) (sz : Nat) {fu : Nat} {τs : WS} {n : Nat} {pa : PA} {β : FS} {υ : MS} {ω : WS} {sid : PA} {i1 : Int32} {o : (String ⊕ (Int32 × PA × MS × WS × PA))} (hf : mX3_writeOff fu τs n pa β υ ω sid i1 = some o) : vx_Met l yX3_writeOff wsX3_writeOff rmX3_writeOff (PcX (dC, dI) [(cyI, .int), (cyB, .byte), (cyO, .object "UndoJourneys$World")] (cU cyI cyB cyO ua ub up aw as' pa β υ ω sid τs n) sz [.ref ua, .int i1]) (QiX (dC, dI) [(cyI, .int), (cyB, .byte), (cyO, .object "UndoJourneys$World")] (cU cyI cyB cyO ua ub up aw as' pa β υ ω sid τs n) (fun x => (cU cyI cyB cyO ua ub up aw as' (x.2.1) β (x.2.2.1) (x.2.2.2.1) (x.2.2.2.2) τs n)) (fun x => (x.1)) sz o) (XF (dC, dI) [(cyI, .int), (cyB, .byte), (cyO, .object "UndoJourneys$World")] (cU cyI cyB cyO ua ub up aw as' pa β υ ω sid τs n) sz o) 2 12 (va_A (cU cyI cyB cyO ua ub up aw as' pa β υ ω sid τs n) sz) := by
  refine vx_ofW (cc := cX3_writeOff) (maxL := 2) (ret := (some .int)) (by decide) rfl ?_
  intro p e s m args below meth c s₁ B hml ht0 hv
  obtain ⟨rfl, ⟨hsz, hP, hK, hD0⟩, hEX⟩ := hv
  have hx := B.exec
  have hb := B.bytes
  have hr := B.returns
  have hts := atoms_spec (ws := wsX3_writeOff) B.pre
  have hown : s.vm.findClass RX3 = some m.cls := findClass_of_methodNamed B.named
  have hlocks := B.notSynchronized
  subst hsz
  have hA : ∀ q : Nat, s.heap.size ≤ q → va_A (cU cyI cyB cyO ua ub up aw as' pa β υ ω sid τs n) s.heap.size q := fun q h => Or.inr h
  have hB : Bd (dC, dI) [(cyI, .int), (cyB, .byte), (cyO, .object "UndoJourneys$World")] (va_A (cU cyI cyB cyO ua ub up aw as' pa β υ ω sid τs n) s.heap.size) s (cU cyI cyB cyO ua ub up aw as' pa β υ ω sid τs n) s.heap [] := ⟨hP, hD0.self, va_S.rf⟩
  have hq1 : (Cond.fieldLink RX3 35 "UndoJourneys" "now" "LUndoJourneys$World;").before _ s = true := hts _ (List.mem_of_getElem? (i := 1) rfl)
  have hinX0 : ∀ w ∈ wsX00, w ∈ wsX3_writeOff := fun w h => List.mem_cons_of_mem _ (List.mem_append_left _ (List.mem_append_left _ (List.mem_append_right _ h)))
  have hinX2 : ∀ w ∈ wsX20, w ∈ wsX3_writeOff := fun w h => List.mem_cons_of_mem _ (List.mem_append_left _ (List.mem_append_left _ (List.mem_append_left _ (List.mem_append_right _ h))))
  have hinX3 : ∀ w ∈ wsX30, w ∈ wsX3_writeOff := fun w h => List.mem_cons_of_mem _ (List.mem_append_left _ (List.mem_append_left _ (List.mem_append_left _ (List.mem_append_left _ (List.mem_append_right _ h)))))
  have hl := lv_entry [.ref ua, .int i1] (n := 2) (Nat.le_of_ble_eq_true rfl)
  rw [lg_entry_eq]
  generalize (lg_sl [.ref ua, .int i1] ++ List.replicate (2 - (lg_sl [.ref ua, .int i1]).length) Slot.unset).toArray = ls at hl ⊢
  have hl : lv_has ls 2 [(0, .ref ua), (1, .int i1)] := hl
  clear hP hD0
  suffices main : ∀ (H : Heap) (locs : List Loc), Bd (dC, dI) [(cyI, .int), (cyB, .byte), (cyO, .object "UndoJourneys$World")] (va_A (cU cyI cyB cyO ua ub up aw as' pa β υ ω sid τs n) s.heap.size) s (cU cyI cyB cyO ua ub up aw as' pa β υ ω sid τs n) H locs → W p l e (headSpec wsX3_writeOff rmX3_writeOff).room s m ([.ref ua, .int i1] : List Value).toArray below meth c H locs 0 0 (vx_MQ below (QiX (dC, dI) [(cyI, .int), (cyB, .byte), (cyO, .object "UndoJourneys$World")] (cU cyI cyB cyO ua ub up aw as' pa β υ ω sid τs n) (fun x => (cU cyI cyB cyO ua ub up aw as' (x.2.1) β (x.2.2.1) (x.2.2.2.1) (x.2.2.2.2) τs n)) (fun x => (x.1)) s.heap.size o) (XF (dC, dI) [(cyI, .int), (cyB, .byte), (cyO, .object "UndoJourneys$World")] (cU cyI cyB cyO ua ub up aw as' pa β υ ω sid τs n) s.heap.size o) ([.ref ua, .int i1] : List Value).toArray s 2 12 (va_A (cU cyI cyB cyO ua ub up aw as' pa β υ ω sid τs n) s.heap.size)) (F0 m 0 ls []) from main _ _ hB
  clear hB
  intro H locs hB
  unfold mX3_writeOff at hf
  refine lv_aload_n hx hb dX3_writeOff_0 rfl (lv_at hl 0 rfl) ?_
  refine lv_iload_n hx hb dX3_writeOff_1 rfl (lv_at hl 1 rfl) ?_
  obtain ⟨o1, hc, hE, hf9⟩ := obX_s hf
  refine g_chkV (As := [.int i1]) (rest := []) ⟨hx, hb, hml, hown, hts⟩ hEX (kX3_checkJourney l hl0 dC dI cyI cyB cyO ua ub up aw as' H.size hc) (cwV 1 hts gX3_writeOff_X3_checkJourney rfl rfl rfl (by decide +kernel) ⟨Nat.le_of_ble_eq_true rfl, Nat.le_of_ble_eq_true rfl⟩) hK hB hA (g_recv (ci := 3) hK hB 0 rfl rfl rfl) ht0 hlocks rfl hE rfl hl.1 rfl (Nat.le_of_ble_eq_true rfl) dX3_writeOff_2 ⟨Nat.le_of_ble_eq_true rfl, Nat.le_of_ble_eq_true rfl⟩ (Nat.le_of_ble_eq_true rfl) (Nat.le_of_ble_eq_true rfl) (fun ho9 H locs hB => ?_)
  have hf := hf9 () ho9
  refine lv_aload_n hx hb dX3_writeOff_5 rfl (lv_at hl 0 rfl) ?_
  refine lv_iload_n hx hb dX3_writeOff_6 rfl (lv_at hl 1 rfl) ?_
  obtain ⟨o2, hc, hE, hf9⟩ := obX_s hf
  refine g_chkV (As := [.int i1]) (rest := []) ⟨hx, hb, hml, hown, hts⟩ hEX (kX3_checkParked l hl0 dC dI cyI cyB cyO ua ub up aw as' H.size hc) (cwV 1 hts gX3_writeOff_X3_checkParked rfl rfl rfl (by decide +kernel) ⟨Nat.le_of_ble_eq_true rfl, Nat.le_of_ble_eq_true rfl⟩) hK hB hA (g_recv (ci := 3) hK hB 0 rfl rfl rfl) ht0 hlocks rfl hE rfl hl.1 rfl (Nat.le_of_ble_eq_true rfl) dX3_writeOff_7 ⟨Nat.le_of_ble_eq_true rfl, Nat.le_of_ble_eq_true rfl⟩ (Nat.le_of_ble_eq_true rfl) (Nat.le_of_ble_eq_true rfl) (fun ho9 H locs hB => ?_)
  have hf := hf9 () ho9
  refine lv_aload_n hx hb dX3_writeOff_10 rfl (lv_at hl 0 rfl) ?_
  obtain ⟨pa3, υ4, ω5, sid6, hc, hf⟩ := ob4_s hf
  refine g_callVv (As := []) (rest := []) ⟨hx, hb, hml, hown, hts⟩ (kX3_remember l dC dI cyI cyB cyO ua ub up aw as' H.size hc) (cwV 0 hts gX3_writeOff_X3_remember rfl rfl rfl (by decide +kernel) ⟨Nat.le_of_ble_eq_true rfl, Nat.le_of_ble_eq_true rfl⟩) hK hB hA (g_recv (ci := 3) hK hB 0 rfl rfl rfl) rfl hl.1 rfl (Nat.le_of_ble_eq_true rfl) dX3_writeOff_11 ⟨Nat.le_of_ble_eq_true rfl, Nat.le_of_ble_eq_true rfl⟩ (fun H locs hB => ?_)
  refine lv_aload_n hx hb dX3_writeOff_14 rfl (lv_at hl 0 rfl) ?_
  refine g_get (C := RX3) (T := TX3) (N := 7) hx hb hts hinX3 hown hK hB 0 rfl rfl 3 rfl hq1 rfl rfl dX3_writeOff_15 ?_
  refine lv_iload_n hx hb dX3_writeOff_18 rfl (lv_at hl 1 rfl) ?_
  refine lv_bipush (v := (6 : Int32)) hx hb dX3_writeOff_19 (by decide) ?_
  obtain ⟨_, g7, hf⟩ := ob1_s hf
  have g7 := gW_s g7
  obtain ⟨r8, σ9, hc, hf⟩ := ob2_s hf
  obtain ⟨ω10, e9, hf⟩ := ob1_s hf
  have e9 := inj1 e9
  refine g_pcutVi (As := [.int i1, .int (6 : Int32)]) (rest := []) (w2 := (cU cyI cyB cyO ua ub up aw as' pa3 β υ4 ω10 sid6 τs n)) ⟨hx, hb, hml, hown, hts⟩ (kX2_putLastStepAway l dC dI cyI (aw 0) (as' (sid6 0)) H.size hc) (cwV 2 hts gX3_writeOff_X2_putLastStepAway rfl rfl rfl (by decide +kernel) ⟨Nat.le_of_ble_eq_true rfl, Nat.le_of_ble_eq_true rfl⟩) (hK.sub [0] rfl) hB hA (g_recv (ci := 2) hK (hB.perm (cU_view cyI cyB cyO ua ub up aw as' pa3 β υ4 ω5 sid6 τs n g7)) 0 rfl rfl rfl) (cU_view cyI cyB cyO ua ub up aw as' pa3 β υ4 ω5 sid6 τs n g7) (by rw [← e9]; exact cU_back cyI cyB cyO ua ub up aw as' pa3 β υ4 ω5 sid6 τs n g7 σ9) rfl hl.1 rfl (Nat.le_of_ble_eq_true rfl) dX3_writeOff_21 ⟨Nat.le_of_ble_eq_true rfl, Nat.le_of_ble_eq_true rfl⟩ (fun H locs hB => ?_)
  have e0 := inj1 hf
  exact g_xiret (x := (r8, pa3, υ4, ω10, sid6)) hx hb hr hlocks hK hB e0.symm (Nat.le_of_ble_eq_true rfl) (Nat.le_of_ble_eq_true rfl) dX3_writeOff_24

abbrev rmX3_goForward : Room := { frames := 7, cells := 2, slots := 12, locals := 111 }

set_option maxHeartbeats 4000000 in
set_option maxRecDepth 100000 in
theorem kX3_goForward (l : Launch) (hl0 : l.stackTraces = false) (dC : Nat → ClassId) (dI : Nat → Nat → Nat) (cyI cyB cyO : ClassId) (ua ub up : Nat) (aw as' : Nat → Nat → Nat) (sz : Nat) {fu : Nat} {τs : WS} {n : Nat} {pa : PA} {β : FS} {υ : MS} {ω : WS} {sid : PA} {i1 : Int32} {o : (String ⊕ (Int32 × PA × MS × WS × PA))} (hf : mX3_goForward fu τs n pa β υ ω sid i1 = some o) : vx_Met l yX3_goForward wsX3_goForward rmX3_goForward (PcX (dC, dI) [(cyI, .int), (cyB, .byte), (cyO, .object "UndoJourneys$World")] (cU cyI cyB cyO ua ub up aw as' pa β υ ω sid τs n) sz [.ref ua, .int i1]) (QiX (dC, dI) [(cyI, .int), (cyB, .byte), (cyO, .object "UndoJourneys$World")] (cU cyI cyB cyO ua ub up aw as' pa β υ ω sid τs n) (fun x => (cU cyI cyB cyO ua ub up aw as' (x.2.1) β (x.2.2.1) (x.2.2.2.1) (x.2.2.2.2) τs n)) (fun x => (x.1)) sz o) (XF (dC, dI) [(cyI, .int), (cyB, .byte), (cyO, .object "UndoJourneys$World")] (cU cyI cyB cyO ua ub up aw as' pa β υ ω sid τs n) sz o) 2 12 (va_A (cU cyI cyB cyO ua ub up aw as' pa β υ ω sid τs n) sz) := by
  refine vx_ofW (cc := cX3_goForward) (maxL := 2) (ret := (some .int)) (by decide) rfl ?_
  intro p e s m args below meth c s₁ B hml ht0 hv
  obtain ⟨rfl, ⟨hsz, hP, hK, hD0⟩, hEX⟩ := hv
  have hx := B.exec
  have hb := B.bytes
  have hr := B.returns
  have hts := atoms_spec (ws := wsX3_goForward) B.pre
  have hown : s.vm.findClass RX3 = some m.cls := findClass_of_methodNamed B.named
  have hlocks := B.notSynchronized
  subst hsz
  have hA : ∀ q : Nat, s.heap.size ≤ q → va_A (cU cyI cyB cyO ua ub up aw as' pa β υ ω sid τs n) s.heap.size q := fun q h => Or.inr h
  have hB : Bd (dC, dI) [(cyI, .int), (cyB, .byte), (cyO, .object "UndoJourneys$World")] (va_A (cU cyI cyB cyO ua ub up aw as' pa β υ ω sid τs n) s.heap.size) s (cU cyI cyB cyO ua ub up aw as' pa β υ ω sid τs n) s.heap [] := ⟨hP, hD0.self, va_S.rf⟩
  have hq1 : (Cond.fieldLink RX3 35 "UndoJourneys" "now" "LUndoJourneys$World;").before _ s = true := hts _ (List.mem_of_getElem? (i := 1) rfl)
  have hinX0 : ∀ w ∈ wsX00, w ∈ wsX3_goForward := fun w h => List.mem_cons_of_mem _ (List.mem_append_left _ (List.mem_append_left _ (List.mem_append_right _ h)))
  have hinX2 : ∀ w ∈ wsX20, w ∈ wsX3_goForward := fun w h => List.mem_cons_of_mem _ (List.mem_append_left _ (List.mem_append_left _ (List.mem_append_left _ (List.mem_append_right _ h))))
  have hinX3 : ∀ w ∈ wsX30, w ∈ wsX3_goForward := fun w h => List.mem_cons_of_mem _ (List.mem_append_left _ (List.mem_append_left _ (List.mem_append_left _ (List.mem_append_left _ (List.mem_append_right _ h)))))
  have hl := lv_entry [.ref ua, .int i1] (n := 2) (Nat.le_of_ble_eq_true rfl)
  rw [lg_entry_eq]
  generalize (lg_sl [.ref ua, .int i1] ++ List.replicate (2 - (lg_sl [.ref ua, .int i1]).length) Slot.unset).toArray = ls at hl ⊢
  have hl : lv_has ls 2 [(0, .ref ua), (1, .int i1)] := hl
  clear hP hD0
  suffices main : ∀ (H : Heap) (locs : List Loc), Bd (dC, dI) [(cyI, .int), (cyB, .byte), (cyO, .object "UndoJourneys$World")] (va_A (cU cyI cyB cyO ua ub up aw as' pa β υ ω sid τs n) s.heap.size) s (cU cyI cyB cyO ua ub up aw as' pa β υ ω sid τs n) H locs → W p l e (headSpec wsX3_goForward rmX3_goForward).room s m ([.ref ua, .int i1] : List Value).toArray below meth c H locs 0 0 (vx_MQ below (QiX (dC, dI) [(cyI, .int), (cyB, .byte), (cyO, .object "UndoJourneys$World")] (cU cyI cyB cyO ua ub up aw as' pa β υ ω sid τs n) (fun x => (cU cyI cyB cyO ua ub up aw as' (x.2.1) β (x.2.2.1) (x.2.2.2.1) (x.2.2.2.2) τs n)) (fun x => (x.1)) s.heap.size o) (XF (dC, dI) [(cyI, .int), (cyB, .byte), (cyO, .object "UndoJourneys$World")] (cU cyI cyB cyO ua ub up aw as' pa β υ ω sid τs n) s.heap.size o) ([.ref ua, .int i1] : List Value).toArray s 2 12 (va_A (cU cyI cyB cyO ua ub up aw as' pa β υ ω sid τs n) s.heap.size)) (F0 m 0 ls []) from main _ _ hB
  clear hB
  intro H locs hB
  unfold mX3_goForward at hf
  refine lv_aload_n hx hb dX3_goForward_0 rfl (lv_at hl 0 rfl) ?_
  refine lv_iload_n hx hb dX3_goForward_1 rfl (lv_at hl 1 rfl) ?_
  obtain ⟨o1, hc, hE, hf9⟩ := obX_s hf
  refine g_chkV (As := [.int i1]) (rest := []) ⟨hx, hb, hml, hown, hts⟩ hEX (kX3_checkJourney l hl0 dC dI cyI cyB cyO ua ub up aw as' H.size hc) (cwV 1 hts gX3_goForward_X3_checkJourney rfl rfl rfl (by decide +kernel) ⟨Nat.le_of_ble_eq_true rfl, Nat.le_of_ble_eq_true rfl⟩) hK hB hA (g_recv (ci := 3) hK hB 0 rfl rfl rfl) ht0 hlocks rfl hE rfl hl.1 rfl (Nat.le_of_ble_eq_true rfl) dX3_goForward_2 ⟨Nat.le_of_ble_eq_true rfl, Nat.le_of_ble_eq_true rfl⟩ (Nat.le_of_ble_eq_true rfl) (Nat.le_of_ble_eq_true rfl) (fun ho9 H locs hB => ?_)
  have hf := hf9 () ho9
  refine lv_aload_n hx hb dX3_goForward_5 rfl (lv_at hl 0 rfl) ?_
  refine lv_iload_n hx hb dX3_goForward_6 rfl (lv_at hl 1 rfl) ?_
  obtain ⟨o2, hc, hE, hf9⟩ := obX_s hf
  refine g_chkV (As := [.int i1]) (rest := []) ⟨hx, hb, hml, hown, hts⟩ hEX (kX3_checkParked l hl0 dC dI cyI cyB cyO ua ub up aw as' H.size hc) (cwV 1 hts gX3_goForward_X3_checkParked rfl rfl rfl (by decide +kernel) ⟨Nat.le_of_ble_eq_true rfl, Nat.le_of_ble_eq_true rfl⟩) hK hB hA (g_recv (ci := 3) hK hB 0 rfl rfl rfl) ht0 hlocks rfl hE rfl hl.1 rfl (Nat.le_of_ble_eq_true rfl) dX3_goForward_7 ⟨Nat.le_of_ble_eq_true rfl, Nat.le_of_ble_eq_true rfl⟩ (Nat.le_of_ble_eq_true rfl) (Nat.le_of_ble_eq_true rfl) (fun ho9 H locs hB => ?_)
  have hf := hf9 () ho9
  refine lv_aload_n hx hb dX3_goForward_10 rfl (lv_at hl 0 rfl) ?_
  obtain ⟨pa3, υ4, ω5, sid6, hc, hf⟩ := ob4_s hf
  refine g_callVv (As := []) (rest := []) ⟨hx, hb, hml, hown, hts⟩ (kX3_remember l dC dI cyI cyB cyO ua ub up aw as' H.size hc) (cwV 0 hts gX3_goForward_X3_remember rfl rfl rfl (by decide +kernel) ⟨Nat.le_of_ble_eq_true rfl, Nat.le_of_ble_eq_true rfl⟩) hK hB hA (g_recv (ci := 3) hK hB 0 rfl rfl rfl) rfl hl.1 rfl (Nat.le_of_ble_eq_true rfl) dX3_goForward_11 ⟨Nat.le_of_ble_eq_true rfl, Nat.le_of_ble_eq_true rfl⟩ (fun H locs hB => ?_)
  refine lv_aload_n hx hb dX3_goForward_14 rfl (lv_at hl 0 rfl) ?_
  refine g_get (C := RX3) (T := TX3) (N := 7) hx hb hts hinX3 hown hK hB 0 rfl rfl 3 rfl hq1 rfl rfl dX3_goForward_15 ?_
  refine lv_iload_n hx hb dX3_goForward_18 rfl (lv_at hl 1 rfl) ?_
  obtain ⟨_, g7, hf⟩ := ob1_s hf
  have g7 := gW_s g7
  obtain ⟨r8, σ9, hc, hf⟩ := ob2_s hf
  obtain ⟨ω10, e9, hf⟩ := ob1_s hf
  have e9 := inj1 e9
  refine g_pcutVi (As := [.int i1]) (rest := []) (w2 := (cU cyI cyB cyO ua ub up aw as' pa3 β υ4 ω10 sid6 τs n)) ⟨hx, hb, hml, hown, hts⟩ (kX2_letGoForward l dC dI cyI (aw 0) (as' (sid6 0)) H.size hc) (cwV 1 hts gX3_goForward_X2_letGoForward rfl rfl rfl (by decide +kernel) ⟨Nat.le_of_ble_eq_true rfl, Nat.le_of_ble_eq_true rfl⟩) (hK.sub [0] rfl) hB hA (g_recv (ci := 2) hK (hB.perm (cU_view cyI cyB cyO ua ub up aw as' pa3 β υ4 ω5 sid6 τs n g7)) 0 rfl rfl rfl) (cU_view cyI cyB cyO ua ub up aw as' pa3 β υ4 ω5 sid6 τs n g7) (by rw [← e9]; exact cU_back cyI cyB cyO ua ub up aw as' pa3 β υ4 ω5 sid6 τs n g7 σ9) rfl hl.1 rfl (Nat.le_of_ble_eq_true rfl) dX3_goForward_19 ⟨Nat.le_of_ble_eq_true rfl, Nat.le_of_ble_eq_true rfl⟩ (fun H locs hB => ?_)
  have e0 := inj1 hf
  exact g_xiret (x := (r8, pa3, υ4, ω10, sid6)) hx hb hr hlocks hK hB e0.symm (Nat.le_of_ble_eq_true rfl) (Nat.le_of_ble_eq_true rfl) dX3_goForward_22

abbrev rmX3_restock : Room := { frames := 7, cells := 2, slots := 12, locals := 111 }

set_option maxHeartbeats 4000000 in
set_option maxRecDepth 100000 in
theorem kX3_restock (l : Launch) (hl0 : l.stackTraces = false) (dC : Nat → ClassId) (dI : Nat → Nat → Nat) (cyI cyB cyO : ClassId) (ua ub up : Nat) (aw as' : Nat → Nat → Nat) (sz : Nat) {fu : Nat} {τs : WS} {n : Nat} {pa : PA} {β : FS} {υ : MS} {ω : WS} {sid : PA} {i1 : Int32} {i2 : Int32} {o : (String ⊕ (Int32 × PA × MS × WS × PA))} (hf : mX3_restock fu τs n pa β υ ω sid i1 i2 = some o) : vx_Met l yX3_restock wsX3_restock rmX3_restock (PcX (dC, dI) [(cyI, .int), (cyB, .byte), (cyO, .object "UndoJourneys$World")] (cU cyI cyB cyO ua ub up aw as' pa β υ ω sid τs n) sz [.ref ua, .int i1, .int i2]) (QiX (dC, dI) [(cyI, .int), (cyB, .byte), (cyO, .object "UndoJourneys$World")] (cU cyI cyB cyO ua ub up aw as' pa β υ ω sid τs n) (fun x => (cU cyI cyB cyO ua ub up aw as' (x.2.1) β (x.2.2.1) (x.2.2.2.1) (x.2.2.2.2) τs n)) (fun x => (x.1)) sz o) (XF (dC, dI) [(cyI, .int), (cyB, .byte), (cyO, .object "UndoJourneys$World")] (cU cyI cyB cyO ua ub up aw as' pa β υ ω sid τs n) sz o) 2 12 (va_A (cU cyI cyB cyO ua ub up aw as' pa β υ ω sid τs n) sz) := by
  refine vx_ofW (cc := cX3_restock) (maxL := 3) (ret := (some .int)) (by decide) rfl ?_
  intro p e s m args below meth c s₁ B hml ht0 hv
  obtain ⟨rfl, ⟨hsz, hP, hK, hD0⟩, hEX⟩ := hv
  have hx := B.exec
  have hb := B.bytes
  have hr := B.returns
  have hts := atoms_spec (ws := wsX3_restock) B.pre
  have hown : s.vm.findClass RX3 = some m.cls := findClass_of_methodNamed B.named
  have hlocks := B.notSynchronized
  subst hsz
  have hA : ∀ q : Nat, s.heap.size ≤ q → va_A (cU cyI cyB cyO ua ub up aw as' pa β υ ω sid τs n) s.heap.size q := fun q h => Or.inr h
  have hB : Bd (dC, dI) [(cyI, .int), (cyB, .byte), (cyO, .object "UndoJourneys$World")] (va_A (cU cyI cyB cyO ua ub up aw as' pa β υ ω sid τs n) s.heap.size) s (cU cyI cyB cyO ua ub up aw as' pa β υ ω sid τs n) s.heap [] := ⟨hP, hD0.self, va_S.rf⟩
  have hq1 : (Cond.classLink RX3 46 "java/lang/IllegalArgumentException").before _ s = true := hts _ (List.mem_of_getElem? (i := 1) rfl)
  have hq2 : (Cond.initialized "java/lang/IllegalArgumentException").before _ s = true := hts _ (List.mem_of_getElem? (i := 2) rfl)
  have hq3 : (Cond.fieldLink RX3 35 "UndoJourneys" "now" "LUndoJourneys$World;").before _ s = true := hts _ (List.mem_of_getElem? (i := 3) rfl)
  have hq4 : (Cond.fieldLink RX3 141 "UndoJourneys$World" "level" "[I").before _ s = true := hts _ (List.mem_of_getElem? (i := 4) rfl)
  have hinX0 : ∀ w ∈ wsX00, w ∈ wsX3_restock := fun w h => List.mem_cons_of_mem _ (List.mem_append_left _ (List.mem_append_left _ (List.mem_append_right _ h)))
  have hinX2 : ∀ w ∈ wsX20, w ∈ wsX3_restock := fun w h => List.mem_cons_of_mem _ (List.mem_append_left _ (List.mem_append_left _ (List.mem_append_left _ (List.mem_append_right _ h))))
  have hinX3 : ∀ w ∈ wsX30, w ∈ wsX3_restock := fun w h => List.mem_cons_of_mem _ (List.mem_append_left _ (List.mem_append_left _ (List.mem_append_left _ (List.mem_append_left _ (List.mem_append_right _ h)))))
  have hl := lv_entry [.ref ua, .int i1, .int i2] (n := 3) (Nat.le_of_ble_eq_true rfl)
  rw [lg_entry_eq]
  generalize (lg_sl [.ref ua, .int i1, .int i2] ++ List.replicate (3 - (lg_sl [.ref ua, .int i1, .int i2]).length) Slot.unset).toArray = ls at hl ⊢
  have hl : lv_has ls 3 [(0, .ref ua), (1, .int i1), (2, .int i2)] := hl
  clear hP hD0
  suffices main : ∀ (H : Heap) (locs : List Loc), Bd (dC, dI) [(cyI, .int), (cyB, .byte), (cyO, .object "UndoJourneys$World")] (va_A (cU cyI cyB cyO ua ub up aw as' pa β υ ω sid τs n) s.heap.size) s (cU cyI cyB cyO ua ub up aw as' pa β υ ω sid τs n) H locs → W p l e (headSpec wsX3_restock rmX3_restock).room s m ([.ref ua, .int i1, .int i2] : List Value).toArray below meth c H locs 0 0 (vx_MQ below (QiX (dC, dI) [(cyI, .int), (cyB, .byte), (cyO, .object "UndoJourneys$World")] (cU cyI cyB cyO ua ub up aw as' pa β υ ω sid τs n) (fun x => (cU cyI cyB cyO ua ub up aw as' (x.2.1) β (x.2.2.1) (x.2.2.2.1) (x.2.2.2.2) τs n)) (fun x => (x.1)) s.heap.size o) (XF (dC, dI) [(cyI, .int), (cyB, .byte), (cyO, .object "UndoJourneys$World")] (cU cyI cyB cyO ua ub up aw as' pa β υ ω sid τs n) s.heap.size o) ([.ref ua, .int i1, .int i2] : List Value).toArray s 2 12 (va_A (cU cyI cyB cyO ua ub up aw as' pa β υ ω sid τs n) s.heap.size)) (F0 m 0 ls []) from main _ _ hB
  clear hB
  intro H locs hB
  unfold mX3_restock at hf
  refine lv_aload_n hx hb dX3_restock_0 rfl (lv_at hl 0 rfl) ?_
  refine lv_iload_n hx hb dX3_restock_1 rfl (lv_at hl 1 rfl) ?_
  obtain ⟨o1, hc, hE, hf9⟩ := obX_s hf
  refine g_chkV (As := [.int i1]) (rest := []) ⟨hx, hb, hml, hown, hts⟩ hEX (kX3_checkStock l hl0 dC dI cyI cyB cyO ua ub up aw as' H.size hc) (cwV 1 hts gX3_restock_X3_checkStock rfl rfl rfl (by decide +kernel) ⟨Nat.le_of_ble_eq_true rfl, Nat.le_of_ble_eq_true rfl⟩) hK hB hA (g_recv (ci := 3) hK hB 0 rfl rfl rfl) ht0 hlocks rfl hE rfl hl.1 rfl (Nat.le_of_ble_eq_true rfl) dX3_restock_2 ⟨Nat.le_of_ble_eq_true rfl, Nat.le_of_ble_eq_true rfl⟩ (Nat.le_of_ble_eq_true rfl) (Nat.le_of_ble_eq_true rfl) (fun ho9 H locs hB => ?_)
  have hf := hf9 () ho9
  refine lv_iload_n hx hb dX3_restock_5 rfl (lv_at hl 2 rfl) ?_
  refine lv_iconst (v := (1 : Int32)) hx hb dX3_restock_6 (by decide) ?_
  obtain ⟨t2, hD3, hf⟩ := ob1_s hf
  have kTt2 : t2 = true → ∀ (H : Heap) (locs : List Loc), Bd (dC, dI) [(cyI, .int), (cyB, .byte), (cyO, .object "UndoJourneys$World")] (va_A (cU cyI cyB cyO ua ub up aw as' pa β υ ω sid τs n) s.heap.size) s (cU cyI cyB cyO ua ub up aw as' pa β υ ω sid τs n) H locs → W p l e (headSpec wsX3_restock rmX3_restock).room s m ([.ref ua, .int i1, .int i2] : List Value).toArray below meth c H locs 1 6 (vx_MQ below (QiX (dC, dI) [(cyI, .int), (cyB, .byte), (cyO, .object "UndoJourneys$World")] (cU cyI cyB cyO ua ub up aw as' pa β υ ω sid τs n) (fun x => (cU cyI cyB cyO ua ub up aw as' (x.2.1) β (x.2.2.1) (x.2.2.2.1) (x.2.2.2.2) τs n)) (fun x => (x.1)) s.heap.size o) (XF (dC, dI) [(cyI, .int), (cyB, .byte), (cyO, .object "UndoJourneys$World")] (cU cyI cyB cyO ua ub up aw as' pa β υ ω sid τs n) s.heap.size o) ([.ref ua, .int i1, .int i2] : List Value).toArray s 2 12 (va_A (cU cyI cyB cyO ua ub up aw as' pa β υ ω sid τs n) s.heap.size)) (F0 m 17 ls []) := by
    intro ht H locs hB
    have hf := cnd_t ht hf
    have e0 := inj1 hf
    refine g_throw (names := ["java/lang/RuntimeException", "java/lang/Exception"]) hl0 hx hb hown hEX ht0 hlocks hK hB rfl e0.symm hml hl.1 (by decide) (by decide) hq1 hq2 (List.mem_of_getElem? (i := 4) rfl) (fun w h => hts w (List.mem_cons_of_mem _ (List.mem_append_left _ (List.mem_append_right _ h)))) (by decide +kernel) (by decide +kernel) dX3_restock_17 dX3_restock_20 dX3_restock_21 dX3_restock_23 dX3_restock_26 (Nat.le_of_ble_eq_true rfl) (Nat.le_of_ble_eq_true rfl) (Nat.le_of_ble_eq_true rfl) (Nat.le_of_ble_eq_true rfl) (Nat.le_of_ble_eq_true rfl) (Nat.le_of_ble_eq_true rfl)
  have kFt2 : t2 = false → ∀ (H : Heap) (locs : List Loc), Bd (dC, dI) [(cyI, .int), (cyB, .byte), (cyO, .object "UndoJourneys$World")] (va_A (cU cyI cyB cyO ua ub up aw as' pa β υ ω sid τs n) s.heap.size) s (cU cyI cyB cyO ua ub up aw as' pa β υ ω sid τs n) H locs → W p l e (headSpec wsX3_restock rmX3_restock).room s m ([.ref ua, .int i1, .int i2] : List Value).toArray below meth c H locs 1 6 (vx_MQ below (QiX (dC, dI) [(cyI, .int), (cyB, .byte), (cyO, .object "UndoJourneys$World")] (cU cyI cyB cyO ua ub up aw as' pa β υ ω sid τs n) (fun x => (cU cyI cyB cyO ua ub up aw as' (x.2.1) β (x.2.2.1) (x.2.2.2.1) (x.2.2.2.2) τs n)) (fun x => (x.1)) s.heap.size o) (XF (dC, dI) [(cyI, .int), (cyB, .byte), (cyO, .object "UndoJourneys$World")] (cU cyI cyB cyO ua ub up aw as' pa β υ ω sid τs n) s.heap.size o) ([.ref ua, .int i1, .int i2] : List Value).toArray s 2 12 (va_A (cU cyI cyB cyO ua ub up aw as' pa β υ ω sid τs n) s.heap.size)) (F0 m 27 ls []) := by
    intro ht H locs hB
    have hf := cnd_f ht hf
    refine lv_aload_n hx hb dX3_restock_27 rfl (lv_at hl 0 rfl) ?_
    obtain ⟨pa6, υ7, ω8, sid9, hc, hf⟩ := ob4_s hf
    refine g_callVv (As := []) (rest := []) ⟨hx, hb, hml, hown, hts⟩ (kX3_remember l dC dI cyI cyB cyO ua ub up aw as' H.size hc) (cwV 0 hts gX3_restock_X3_remember rfl rfl rfl (by decide +kernel) ⟨Nat.le_of_ble_eq_true rfl, Nat.le_of_ble_eq_true rfl⟩) hK hB hA (g_recv (ci := 3) hK hB 0 rfl rfl rfl) rfl hl.1 rfl (Nat.le_of_ble_eq_true rfl) dX3_restock_28 ⟨Nat.le_of_ble_eq_true rfl, Nat.le_of_ble_eq_true rfl⟩ (fun H locs hB => ?_)
    refine lv_aload_n hx hb dX3_restock_31 rfl (lv_at hl 0 rfl) ?_
    refine g_get (C := RX3) (T := TX3) (N := 7) hx hb hts hinX3 hown hK hB 0 rfl rfl 3 rfl hq3 rfl rfl dX3_restock_32 ?_
    obtain ⟨_, g10, hf⟩ := ob1_s hf
    have g10 := gW_s g10
    refine g_get (C := RX2) (T := TX2) (N := 14) hx hb hts hinX2 hown hK (hB.perm (cU_view cyI cyB cyO ua ub up aw as' pa6 β υ7 ω8 sid9 τs n g10)) 0 rfl rfl 3 rfl hq4 rfl rfl dX3_restock_35 ?_
    refine lv_iload_n hx hb dX3_restock_38 rfl (lv_at hl 1 rfl) ?_
    refine lv_dup2_11 hx hb dX3_restock_39 rfl rfl ?_
    obtain ⟨_, g11, hf⟩ := ob1_s hf
    have g11 := gW_s g11
    obtain ⟨x12, e9, hf⟩ := ob1_s hf
    refine g_iald hx hb hK (hB.perm (cU_view cyI cyB cyO ua ub up aw as' pa6 β υ7 ω8 sid9 τs n g11)) 1 0 rfl rfl (rd_s e9) dX3_restock_40 ?_
    refine lv_iload_n hx hb dX3_restock_41 rfl (lv_at hl 2 rfl) ?_
    refine lv_iadd hx hb dX3_restock_42 ?_
    obtain ⟨_, g13, hf⟩ := ob1_s hf
    have g13 := gW_s g13
    obtain ⟨σ14, e9, hf⟩ := ob1_s hf
    obtain ⟨hi, e9⟩ := wra_s e9
    obtain ⟨ω15, e8, hf⟩ := ob1_s hf
    have e8 := inj1 e8
    refine g_iast hx hb hK (hB.perm (cU_view cyI cyB cyO ua ub up aw as' pa6 β υ7 ω8 sid9 τs n g13)) 1 0 rfl rfl hi rfl dX3_restock_43 (w2 := cW cyI (aw 0) (as' (sid9 0)) (τs (sid9 0)) σ14 ++ rU cyI cyB cyO ua ub up aw as' pa6 β υ7 ω8 sid9 τs n 0) (by rw [← e9]; rfl) (fun H locs hB => ?_)
    have hB := hB.perm (cU_back cyI cyB cyO ua ub up aw as' pa6 β υ7 ω8 sid9 τs n g13 σ14)
    rw [e8] at hB
    refine lv_aload_n hx hb dX3_restock_44 rfl (lv_at hl 0 rfl) ?_
    refine g_get (C := RX3) (T := TX3) (N := 7) hx hb hts hinX3 hown hK hB 0 rfl rfl 3 rfl hq3 rfl rfl dX3_restock_45 ?_
    obtain ⟨_, g16, hf⟩ := ob1_s hf
    have g16 := gW_s g16
    refine g_get (C := RX2) (T := TX2) (N := 14) hx hb hts hinX2 hown hK (hB.perm (cU_view cyI cyB cyO ua ub up aw as' pa6 β υ7 ω15 sid9 τs n g16)) 0 rfl rfl 3 rfl hq4 rfl rfl dX3_restock_48 ?_
    refine lv_iload_n hx hb dX3_restock_51 rfl (lv_at hl 1 rfl) ?_
    obtain ⟨_, g17, hf⟩ := ob1_s hf
    have g17 := gW_s g17
    obtain ⟨x18, e9, hf⟩ := ob1_s hf
    refine g_iald hx hb hK (hB.perm (cU_view cyI cyB cyO ua ub up aw as' pa6 β υ7 ω15 sid9 τs n g17)) 1 0 rfl rfl (rd_s e9) dX3_restock_52 ?_
    have e0 := inj1 hf
    exact g_xiret (x := (x18, pa6, υ7, ω15, sid9)) hx hb hr hlocks hK hB e0.symm (Nat.le_of_ble_eq_true rfl) (Nat.le_of_ble_eq_true rfl) dX3_restock_53
  refine lv_icmp_lt (tgt := 17) hx hb dX3_restock_7 (by decide) (fun c4 => ?_) (fun c4 => ?_)
  · have hD3 := ite_t c4 hD3
    have e0 := inj1 hD3
    exact kTt2 e0.symm _ _ hB
  · have hD3 := ite_f c4 hD3
    refine lv_iload_n hx hb dX3_restock_10 rfl (lv_at hl 2 rfl) ?_
    refine lv_sipush (v := (999 : Int32)) hx hb dX3_restock_11 (by decide) ?_
    refine lv_icmp_le (tgt := 27) hx hb dX3_restock_14 (by decide) (fun c5 => ?_) (fun c5 => ?_)
    · have hD3 := ite_t c5 hD3
      have e0 := inj1 hD3
      exact kFt2 e0.symm _ _ hB
    · have hD3 := ite_f c5 hD3
      have e0 := inj1 hD3
      exact kTt2 e0.symm _ _ hB

abbrev rmX3_undo : Room := { frames := 2, cells := 0, slots := 0, locals := 61 }

set_option maxHeartbeats 4000000 in
set_option maxRecDepth 100000 in
theorem kX3_undo (l : Launch) (dC : Nat → ClassId) (dI : Nat → Nat → Nat) (cyI cyB cyO : ClassId) (ua ub up : Nat) (aw as' : Nat → Nat → Nat) (sz : Nat) {fu : Nat} {τs : WS} {n : Nat} {pa : PA} {β : FS} {υ : MS} {ω : WS} {sid : PA} {r : Int32} {υ_ : MS} {ω_ : WS} {sid_ : PA} (hf : mX3_undo fu τs n pa β υ ω sid = some (r, υ_, ω_, sid_)) : Met l yX3_undo wsX3_undo rmX3_undo (PcF (dC, dI) [(cyI, .int), (cyB, .byte), (cyO, .object "UndoJourneys$World")] (cU cyI cyB cyO ua ub up aw as' pa β υ ω sid τs n) sz [.ref ua]) (QiF (dC, dI) [(cyI, .int), (cyB, .byte), (cyO, .object "UndoJourneys$World")] (cU cyI cyB cyO ua ub up aw as' pa β υ ω sid τs n) (cU cyI cyB cyO ua ub up aw as' pa β υ_ ω_ sid_ τs n) sz r) 0 0 (va_A (cU cyI cyB cyO ua ub up aw as' pa β υ ω sid τs n) sz) := by
  refine Met.ofW (cc := cX3_undo) (maxL := 1) (ret := (some .int)) (by decide) rfl ?_
  intro p e s m args below meth c s₁ B hml hv
  obtain ⟨rfl, hsz, hP, hK, hD0⟩ := hv
  have hx := B.exec
  have hb := B.bytes
  have hr := B.returns
  have hts := atoms_spec (ws := wsX3_undo) B.pre
  have hown : s.vm.findClass RX3 = some m.cls := findClass_of_methodNamed B.named
  have hlocks := B.notSynchronized
  subst hsz
  have hA : ∀ q : Nat, s.heap.size ≤ q → va_A (cU cyI cyB cyO ua ub up aw as' pa β υ ω sid τs n) s.heap.size q := fun q h => Or.inr h
  have hB : Bd (dC, dI) [(cyI, .int), (cyB, .byte), (cyO, .object "UndoJourneys$World")] (va_A (cU cyI cyB cyO ua ub up aw as' pa β υ ω sid τs n) s.heap.size) s (cU cyI cyB cyO ua ub up aw as' pa β υ ω sid τs n) s.heap [] := ⟨hP, hD0.self, va_S.rf⟩
  have hq1 : (Cond.fieldLink RX3 26 "UndoJourneys" "undoable" "I").before _ s = true := hts _ (List.mem_of_getElem? (i := 1) rfl)
  have hq2 : (Cond.fieldLink RX3 35 "UndoJourneys" "now" "LUndoJourneys$World;").before _ s = true := hts _ (List.mem_of_getElem? (i := 2) rfl)
  have hq3 : (Cond.fieldLink RX3 22 "UndoJourneys" "past" "[LUndoJourneys$World;").before _ s = true := hts _ (List.mem_of_getElem? (i := 3) rfl)
  have hinX2 : ∀ w ∈ wsX20, w ∈ wsX3_undo := fun w h => List.mem_cons_of_mem _ (List.mem_append_right _ h)
  have hinX3 : ∀ w ∈ wsX30, w ∈ wsX3_undo := fun w h => List.mem_cons_of_mem _ (List.mem_append_left _ (List.mem_append_right _ h))
  have hl := lv_entry [.ref ua] (n := 1) (Nat.le_of_ble_eq_true rfl)
  rw [lg_entry_eq]
  generalize (lg_sl [.ref ua] ++ List.replicate (1 - (lg_sl [.ref ua]).length) Slot.unset).toArray = ls at hl ⊢
  have hl : lv_has ls 1 [(0, .ref ua)] := hl
  clear hP hD0
  suffices main : ∀ (H : Heap) (locs : List Loc), Bd (dC, dI) [(cyI, .int), (cyB, .byte), (cyO, .object "UndoJourneys$World")] (va_A (cU cyI cyB cyO ua ub up aw as' pa β υ ω sid τs n) s.heap.size) s (cU cyI cyB cyO ua ub up aw as' pa β υ ω sid τs n) H locs → W p l e (headSpec wsX3_undo rmX3_undo).room s m ([.ref ua] : List Value).toArray below meth c H locs 0 0 (MQ below (QiF (dC, dI) [(cyI, .int), (cyB, .byte), (cyO, .object "UndoJourneys$World")] (cU cyI cyB cyO ua ub up aw as' pa β υ ω sid τs n) (cU cyI cyB cyO ua ub up aw as' pa β υ_ ω_ sid_ τs n) s.heap.size r) ([.ref ua] : List Value).toArray s 0 0 (va_A (cU cyI cyB cyO ua ub up aw as' pa β υ ω sid τs n) s.heap.size)) (F0 m 0 ls []) from main _ _ hB
  clear hB
  intro H locs hB
  unfold mX3_undo at hf
  refine lv_aload_n hx hb dX3_undo_0 rfl (lv_at hl 0 rfl) ?_
  refine g_get (C := RX3) (T := TX3) (N := 7) hx hb hts hinX3 hown hK hB 0 rfl rfl 6 rfl hq1 rfl rfl dX3_undo_1 ?_
  refine lv_iconst (v := (1 : Int32)) hx hb dX3_undo_4 (by decide) ?_
  refine lv_icmp_ge (tgt := 10) hx hb dX3_undo_5 (by decide) (fun c1 => ?_) (fun c1 => ?_)
  · have hf := ite_t c1 hf
    refine lv_aload_n hx hb dX3_undo_10 rfl (lv_at hl 0 rfl) ?_
    refine lv_dup hx hb dX3_undo_11 rfl ?_
    refine g_get (C := RX3) (T := TX3) (N := 7) hx hb hts hinX3 hown hK hB 0 rfl rfl 6 rfl hq1 rfl rfl dX3_undo_12 ?_
    refine lv_iconst (v := (1 : Int32)) hx hb dX3_undo_15 (by decide) ?_
    refine lv_isub hx hb dX3_undo_16 ?_
    obtain ⟨υ2, e9, hf⟩ := ob1_s hf
    have e9 := inj1 e9
    refine g_put (C := RX3) (T := TX3) (N := 7) hx hb hts hinX3 tyX3 tyX3_ok nmX3 hown hK hB 0 rfl rfl 6 rfl hq1 rfl rfl rfl rfl rfl rfl dX3_undo_17 (w2 := (cU cyI cyB cyO ua ub up aw as' pa β υ2 ω sid τs n)) (by rw [← e9]; rfl) (fun H locs hB => ?_)
    refine lv_aload_n hx hb dX3_undo_20 rfl (lv_at hl 0 rfl) ?_
    refine g_get (C := RX3) (T := TX3) (N := 7) hx hb hts hinX3 hown hK hB 0 rfl rfl 3 rfl hq2 rfl rfl dX3_undo_21 ?_
    refine lv_aload_n hx hb dX3_undo_24 rfl (lv_at hl 0 rfl) ?_
    refine g_get (C := RX3) (T := TX3) (N := 7) hx hb hts hinX3 hown hK hB 0 rfl rfl 5 rfl hq3 rfl rfl dX3_undo_25 ?_
    refine lv_aload_n hx hb dX3_undo_28 rfl (lv_at hl 0 rfl) ?_
    refine g_get (C := RX3) (T := TX3) (N := 7) hx hb hts hinX3 hown hK hB 0 rfl rfl 6 rfl hq1 rfl rfl dX3_undo_29 ?_
    obtain ⟨j3, e9, hf⟩ := ob1_s hf
    obtain ⟨hjj3, e9⟩ := hix_s e9
    refine g_aaldq hx hb hK hB 2 2 rfl rfl e9 dX3_undo_32 ?_
    obtain ⟨_, g4, hf⟩ := ob1_s hf
    have g4 := gC_s g4
    obtain ⟨σ5, hc, hf⟩ := ob1_s hf
    obtain ⟨ω6, e9, hf⟩ := ob1_s hf
    have e9 := inj1 e9
    obtain ⟨sid7, e8, hf⟩ := ob1_s hf
    have e8 := inj1 e8
    refine g_pcutVv (As := [.ref (aw (pa j3) 0)]) (rest := []) (w2 := (cU cyI cyB cyO ua ub up aw as' pa β υ2 ω6 sid7 τs n)) ⟨hx, hb, hml, hown, hts⟩ (kX2_copyFrom (bs := as' (sid 0) 0) l dC dI cyI (aw 0) (aw (pa j3)) (as' (sid (pa j3)) 0) H.size hc) (cwV 1 hts gX3_undo_X2_copyFrom rfl rfl rfl (by decide +kernel) ⟨Nat.le_of_ble_eq_true rfl, Nat.le_of_ble_eq_true rfl⟩) (hK.sub [0] rfl) hB hA (g_recv (ci := 2) hK (hB.perm (cU_view2 cyI cyB cyO ua ub up aw as' pa β υ2 ω sid τs n g4.1 g4.2.1 g4.2.2.1)) 0 rfl rfl rfl) (cU_view2 cyI cyB cyO ua ub up aw as' pa β υ2 ω sid τs n g4.1 g4.2.1 g4.2.2.1) (by rw [← e9, ← e8]; exact cU_back2 cyI cyB cyO ua ub up aw as' pa β υ2 ω sid τs n g4.1 g4.2.1 g4.2.2.1 σ5) rfl hl.1 rfl (Nat.le_of_ble_eq_true rfl) dX3_undo_33 ⟨Nat.le_of_ble_eq_true rfl, Nat.le_of_ble_eq_true rfl⟩ (fun H locs hB => ?_)
    refine lv_aload_n hx hb dX3_undo_36 rfl (lv_at hl 0 rfl) ?_
    refine g_get (C := RX3) (T := TX3) (N := 7) hx hb hts hinX3 hown hK hB 0 rfl rfl 6 rfl hq1 rfl rfl dX3_undo_37 ?_
    obtain ⟨e0, e1, e2, e3⟩ := inj4 hf
    subst e0
    subst e1
    subst e2
    subst e3
    exact g_iret hx hb hr hlocks hK hB dX3_undo_40
  · have hf := ite_f c1 hf
    refine lv_iconst (v := (-1 : Int32)) hx hb dX3_undo_8 (by decide) ?_
    obtain ⟨e0, e1, e2, e3⟩ := inj4 hf
    subst e0
    subst e1
    subst e2
    subst e3
    exact g_iret hx hb hr hlocks hK hB dX3_undo_9

abbrev rmX3_sumWithJourney : Room := { frames := 3, cells := 0, slots := 0, locals := 64 }

set_option maxHeartbeats 4000000 in
set_option maxRecDepth 100000 in
theorem kX3_sumWithJourney (l : Launch) (dC : Nat → ClassId) (dI : Nat → Nat → Nat) (cyI cyB cyO : ClassId) (ua ub up : Nat) (aw as' : Nat → Nat → Nat) (sz : Nat) {fu : Nat} {τs : WS} {n : Nat} {pa : PA} {β : FS} {υ : MS} {ω : WS} {sid : PA} {i1 : Int64} {i2 : Int32} {r : Int64} (hf : mX3_sumWithJourney fu τs n pa β υ ω sid i1 i2 = some r) : Met l yX3_sumWithJourney wsX3_sumWithJourney rmX3_sumWithJourney (PcF (dC, dI) [(cyI, .int), (cyB, .byte), (cyO, .object "UndoJourneys$World")] (cU cyI cyB cyO ua ub up aw as' pa β υ ω sid τs n) sz [.ref ua, .long i1, .int i2]) (QlF (dC, dI) [(cyI, .int), (cyB, .byte), (cyO, .object "UndoJourneys$World")] (cU cyI cyB cyO ua ub up aw as' pa β υ ω sid τs n) (cU cyI cyB cyO ua ub up aw as' pa β υ ω sid τs n) sz r) 0 0 (va_A (cU cyI cyB cyO ua ub up aw as' pa β υ ω sid τs n) sz) := by
  refine Met.ofW (cc := cX3_sumWithJourney) (maxL := 9) (ret := (some .long)) (by decide) rfl ?_
  intro p e s m args below meth c s₁ B hml hv
  obtain ⟨rfl, hsz, hP, hK, hD0⟩ := hv
  have hx := B.exec
  have hb := B.bytes
  have hr := B.returns
  have hts := atoms_spec (ws := wsX3_sumWithJourney) B.pre
  have hown : s.vm.findClass RX3 = some m.cls := findClass_of_methodNamed B.named
  have hlocks := B.notSynchronized
  subst hsz
  have hA : ∀ q : Nat, s.heap.size ≤ q → va_A (cU cyI cyB cyO ua ub up aw as' pa β υ ω sid τs n) s.heap.size q := fun q h => Or.inr h
  have hB : Bd (dC, dI) [(cyI, .int), (cyB, .byte), (cyO, .object "UndoJourneys$World")] (va_A (cU cyI cyB cyO ua ub up aw as' pa β υ ω sid τs n) s.heap.size) s (cU cyI cyB cyO ua ub up aw as' pa β υ ω sid τs n) s.heap [] := ⟨hP, hD0.self, va_S.rf⟩
  have hq1 : (Cond.constantLong RX3 167 (31)).before _ s = true := hts _ (List.mem_of_getElem? (i := 1) rfl)
  have hq2 : (Cond.fieldLink RX3 35 "UndoJourneys" "now" "LUndoJourneys$World;").before _ s = true := hts _ (List.mem_of_getElem? (i := 2) rfl)
  have hq3 : (Cond.fieldLink RX3 77 "UndoJourneys$World" "setup" "LUndoJourneys$Setup;").before _ s = true := hts _ (List.mem_of_getElem? (i := 3) rfl)
  have hq4 : (Cond.fieldLink RX3 176 "UndoJourneys$Setup" "endStep" "[I").before _ s = true := hts _ (List.mem_of_getElem? (i := 4) rfl)
  have hq5 : (Cond.fieldLink RX3 110 "UndoJourneys$Setup" "firstStep" "[I").before _ s = true := hts _ (List.mem_of_getElem? (i := 5) rfl)
  have hinX0 : ∀ w ∈ wsX00, w ∈ wsX3_sumWithJourney := fun w h => List.mem_cons_of_mem _ (List.mem_append_right _ h)
  have hinX2 : ∀ w ∈ wsX20, w ∈ wsX3_sumWithJourney := fun w h => List.mem_cons_of_mem _ (List.mem_append_left _ (List.mem_append_right _ h))
  have hinX3 : ∀ w ∈ wsX30, w ∈ wsX3_sumWithJourney := fun w h => List.mem_cons_of_mem _ (List.mem_append_left _ (List.mem_append_left _ (List.mem_append_right _ h)))
  have hl := lv_entry [.ref ua, .long i1, .int i2] (n := 9) (Nat.le_of_ble_eq_true rfl)
  rw [lg_entry_eq]
  generalize (lg_sl [.ref ua, .long i1, .int i2] ++ List.replicate (9 - (lg_sl [.ref ua, .long i1, .int i2]).length) Slot.unset).toArray = ls at hl ⊢
  have hl : lv_has ls 9 [(0, .ref ua), (1, .long i1), (3, .int i2)] := hl
  clear hP hD0
  suffices main : ∀ (H : Heap) (locs : List Loc), Bd (dC, dI) [(cyI, .int), (cyB, .byte), (cyO, .object "UndoJourneys$World")] (va_A (cU cyI cyB cyO ua ub up aw as' pa β υ ω sid τs n) s.heap.size) s (cU cyI cyB cyO ua ub up aw as' pa β υ ω sid τs n) H locs → W p l e (headSpec wsX3_sumWithJourney rmX3_sumWithJourney).room s m ([.ref ua, .long i1, .int i2] : List Value).toArray below meth c H locs 0 0 (MQ below (QlF (dC, dI) [(cyI, .int), (cyB, .byte), (cyO, .object "UndoJourneys$World")] (cU cyI cyB cyO ua ub up aw as' pa β υ ω sid τs n) (cU cyI cyB cyO ua ub up aw as' pa β υ ω sid τs n) s.heap.size r) ([.ref ua, .long i1, .int i2] : List Value).toArray s 0 0 (va_A (cU cyI cyB cyO ua ub up aw as' pa β υ ω sid τs n) s.heap.size)) (F0 m 0 ls []) from main _ _ hB
  clear hB
  intro H locs hB
  unfold mX3_sumWithJourney at hf
  refine lv_lload_n hx hb dX3_sumWithJourney_0 rfl (lv_at hl 1 rfl) ?_
  refine lv_lstore (lv' := [(4, .long i1), (0, .ref ua), (1, .long i1), (3, .int i2)]) hx hb dX3_sumWithJourney_1 hl (by decide) rfl (fun ls hl => ?_)
  refine lv_iconst (v := (0 : Int32)) hx hb dX3_sumWithJourney_3 (by decide) ?_
  refine lv_istore (lv' := [(6, .int (0 : Int32)), (4, .long i1), (0, .ref ua), (1, .long i1), (3, .int i2)]) hx hb dX3_sumWithJourney_4 hl (by decide) rfl (fun ls hl => ?_)
  obtain ⟨v12, hL15, hf⟩ := ob1_s hf
  have kE13 : ∀ (H : Heap) (locs : List Loc) (ls : Array Slot), Bd (dC, dI) [(cyI, .int), (cyB, .byte), (cyO, .object "UndoJourneys$World")] (va_A (cU cyI cyB cyO ua ub up aw as' pa β υ ω sid τs n) s.heap.size) s (cU cyI cyB cyO ua ub up aw as' pa β υ ω sid τs n) H locs → lv_has ls 9 [(4, .long v12), (0, .ref ua), (3, .int i2)] → W p l e (headSpec wsX3_sumWithJourney rmX3_sumWithJourney).room s m ([.ref ua, .long i1, .int i2] : List Value).toArray below meth c H locs 0 0 (MQ below (QlF (dC, dI) [(cyI, .int), (cyB, .byte), (cyO, .object "UndoJourneys$World")] (cU cyI cyB cyO ua ub up aw as' pa β υ ω sid τs n) (cU cyI cyB cyO ua ub up aw as' pa β υ ω sid τs n) s.heap.size r) ([.ref ua, .long i1, .int i2] : List Value).toArray s 0 0 (va_A (cU cyI cyB cyO ua ub up aw as' pa β υ ω sid τs n) s.heap.size)) (F0 m 39 ls []) := by
    intro H locs ls hB hl
    refine lv_aload_n hx hb dX3_sumWithJourney_39 rfl (lv_at hl 1 rfl) ?_
    refine g_get (C := RX3) (T := TX3) (N := 7) hx hb hts hinX3 hown hK hB 0 rfl rfl 3 rfl hq2 rfl rfl dX3_sumWithJourney_40 ?_
    obtain ⟨_, g17, hf⟩ := ob1_s hf
    have g17 := gW_s g17
    refine g_get (C := RX2) (T := TX2) (N := 14) hx hb hts hinX2 hown hK (hB.perm (cU_view cyI cyB cyO ua ub up aw as' pa β υ ω sid τs n g17)) 0 rfl rfl 0 rfl hq3 rfl rfl dX3_sumWithJourney_43 ?_
    obtain ⟨_, g18, hf⟩ := ob1_s hf
    have g18 := gW_s g18
    refine g_get (C := RX0) (T := TX0) (N := 17) hx hb hts hinX0 hown hK (hB.perm (cU_view cyI cyB cyO ua ub up aw as' pa β υ ω sid τs n g18)) 12 rfl rfl 9 rfl hq4 rfl rfl dX3_sumWithJourney_46 ?_
    refine lv_iload_n hx hb dX3_sumWithJourney_49 rfl (lv_at hl 2 rfl) ?_
    obtain ⟨_, g19, hf⟩ := ob1_s hf
    have g19 := gW_s g19
    obtain ⟨x20, e9, hf⟩ := ob1_s hf
    refine g_iald hx hb hK (hB.perm (cU_view cyI cyB cyO ua ub up aw as' pa β υ ω sid τs n g19)) 18 0 rfl rfl (rd_s e9) dX3_sumWithJourney_50 ?_
    refine lv_istore (lv' := [(6, .int x20), (4, .long v12), (0, .ref ua), (3, .int i2)]) hx hb dX3_sumWithJourney_51 hl (by decide) rfl (fun ls hl => ?_)
    refine lv_aload_n hx hb dX3_sumWithJourney_53 rfl (lv_at hl 2 rfl) ?_
    refine g_get (C := RX3) (T := TX3) (N := 7) hx hb hts hinX3 hown hK hB 0 rfl rfl 3 rfl hq2 rfl rfl dX3_sumWithJourney_54 ?_
    obtain ⟨_, g21, hf⟩ := ob1_s hf
    have g21 := gW_s g21
    refine g_get (C := RX2) (T := TX2) (N := 14) hx hb hts hinX2 hown hK (hB.perm (cU_view cyI cyB cyO ua ub up aw as' pa β υ ω sid τs n g21)) 0 rfl rfl 0 rfl hq3 rfl rfl dX3_sumWithJourney_57 ?_
    obtain ⟨_, g22, hf⟩ := ob1_s hf
    have g22 := gW_s g22
    refine g_get (C := RX0) (T := TX0) (N := 17) hx hb hts hinX0 hown hK (hB.perm (cU_view cyI cyB cyO ua ub up aw as' pa β υ ω sid τs n g22)) 12 rfl rfl 8 rfl hq5 rfl rfl dX3_sumWithJourney_60 ?_
    refine lv_iload_n hx hb dX3_sumWithJourney_63 rfl (lv_at hl 3 rfl) ?_
    obtain ⟨_, g23, hf⟩ := ob1_s hf
    have g23 := gW_s g23
    obtain ⟨x24, e9, hf⟩ := ob1_s hf
    refine g_iald hx hb hK (hB.perm (cU_view cyI cyB cyO ua ub up aw as' pa β υ ω sid τs n g23)) 17 0 rfl rfl (rd_s e9) dX3_sumWithJourney_64 ?_
    refine lv_istore (lv' := [(7, .int x24), (6, .int x20), (4, .long v12), (0, .ref ua), (3, .int i2)]) hx hb dX3_sumWithJourney_65 hl (by decide) rfl (fun ls hl => ?_)
    obtain ⟨v58, hL61, hf⟩ := ob1_s hf
    have kE59 : ∀ (H : Heap) (locs : List Loc) (ls : Array Slot), Bd (dC, dI) [(cyI, .int), (cyB, .byte), (cyO, .object "UndoJourneys$World")] (va_A (cU cyI cyB cyO ua ub up aw as' pa β υ ω sid τs n) s.heap.size) s (cU cyI cyB cyO ua ub up aw as' pa β υ ω sid τs n) H locs → lv_has ls 9 [(4, .long v58)] → W p l e (headSpec wsX3_sumWithJourney rmX3_sumWithJourney).room s m ([.ref ua, .long i1, .int i2] : List Value).toArray below meth c H locs 0 0 (MQ below (QlF (dC, dI) [(cyI, .int), (cyB, .byte), (cyO, .object "UndoJourneys$World")] (cU cyI cyB cyO ua ub up aw as' pa β υ ω sid τs n) (cU cyI cyB cyO ua ub up aw as' pa β υ ω sid τs n) s.heap.size r) ([.ref ua, .long i1, .int i2] : List Value).toArray s 0 0 (va_A (cU cyI cyB cyO ua ub up aw as' pa β υ ω sid τs n) s.heap.size)) (F0 m 117 ls []) := by
      intro H locs ls hB hl
      refine lv_lload hx hb dX3_sumWithJourney_117 (lv_at hl 0 rfl) ?_
      have e0 := inj1 hf
      subst e0
      exact g_lret hx hb hr hlocks hK hB dX3_sumWithJourney_119
    have key60 : ∀ (n9 : Nat) (v64 : Int32) (v65 : Int64) (H : Heap) (locs : List Loc) (ls : Array Slot), loopM (fun st => mX3_sumWithJourney_L67 fu τs n x20 pa β υ ω sid st.1 st.2) n9 (v64, v65) = some v58 → Bd (dC, dI) [(cyI, .int), (cyB, .byte), (cyO, .object "UndoJourneys$World")] (va_A (cU cyI cyB cyO ua ub up aw as' pa β υ ω sid τs n) s.heap.size) s (cU cyI cyB cyO ua ub up aw as' pa β υ ω sid τs n) H locs → lv_has ls 9 [(7, .int v64), (6, .int x20), (4, .long v65), (0, .ref ua)] → W p l e (headSpec wsX3_sumWithJourney rmX3_sumWithJourney).room s m ([.ref ua, .long i1, .int i2] : List Value).toArray below meth c H locs 0 0 (MQ below (QlF (dC, dI) [(cyI, .int), (cyB, .byte), (cyO, .object "UndoJourneys$World")] (cU cyI cyB cyO ua ub up aw as' pa β υ ω sid τs n) (cU cyI cyB cyO ua ub up aw as' pa β υ ω sid τs n) s.heap.size r) ([.ref ua, .long i1, .int i2] : List Value).toArray s 0 0 (va_A (cU cyI cyB cyO ua ub up aw as' pa β υ ω sid τs n) s.heap.size)) (F0 m 67 ls []) := by
      intro n9
      induction n9 with
      | zero => intro v64 v65 H locs ls hL61; exact (loopM_z hL61).elim
      | succ n9 ih9 =>
        intro v64 v65 H locs ls hL61 hB hl
        obtain ⟨o66, hg62, hL61⟩ := loopM_s hL61
        have hg62 : mX3_sumWithJourney_L67 fu τs n x20 pa β υ ω sid v64 v65 = some o66 := hg62
        unfold mX3_sumWithJourney_L67 at hg62
        refine lv_iload hx hb dX3_sumWithJourney_67 (lv_at hl 0 rfl) ?_
        refine lv_iload hx hb dX3_sumWithJourney_69 (lv_at hl 1 rfl) ?_
        refine lv_icmp_ge (tgt := 117) hx hb dX3_sumWithJourney_71 (by decide) (fun c67 => ?_) (fun c67 => ?_)
        · have hg62 := ite_t c67 hg62
          have hL61 := el1_l (inj1 hg62) hL61
          have e0 := inj1 hL61
          subst e0
          exact kE59 _ _ _ hB (lv_sub hl [2] rfl)
        · have hg62 := ite_f c67 hg62
          refine lv_iconst (v := (4 : Int32)) hx hb dX3_sumWithJourney_74 (by decide) ?_
          refine lv_istore (lv' := [(8, .int (4 : Int32)), (7, .int v64), (6, .int x20), (4, .long v65), (0, .ref ua)]) hx hb dX3_sumWithJourney_75 hl (by decide) rfl (fun ls hl => ?_)
          obtain ⟨v77, hL80, hg62⟩ := ob1_s hg62
          have kE78 : ∀ (H : Heap) (locs : List Loc) (ls : Array Slot), Bd (dC, dI) [(cyI, .int), (cyB, .byte), (cyO, .object "UndoJourneys$World")] (va_A (cU cyI cyB cyO ua ub up aw as' pa β υ ω sid τs n) s.heap.size) s (cU cyI cyB cyO ua ub up aw as' pa β υ ω sid τs n) H locs → lv_has ls 9 [(7, .int v64), (6, .int x20), (4, .long v77), (0, .ref ua)] → W p l e (headSpec wsX3_sumWithJourney rmX3_sumWithJourney).room s m ([.ref ua, .long i1, .int i2] : List Value).toArray below meth c H locs 0 0 (MQ below (QlF (dC, dI) [(cyI, .int), (cyB, .byte), (cyO, .object "UndoJourneys$World")] (cU cyI cyB cyO ua ub up aw as' pa β υ ω sid τs n) (cU cyI cyB cyO ua ub up aw as' pa β υ ω sid τs n) s.heap.size r) ([.ref ua, .long i1, .int i2] : List Value).toArray s 0 0 (va_A (cU cyI cyB cyO ua ub up aw as' pa β υ ω sid τs n) s.heap.size)) (F0 m 111 ls []) := by
            intro H locs ls hB hl
            refine lv_iinc (v := (v64 + (1 : Int32))) (lv' := [(7, .int (v64 + (1 : Int32))), (6, .int x20), (4, .long v77), (0, .ref ua)]) hx hb dX3_sumWithJourney_111 hl (k := 0) rfl rfl (by decide) rfl (fun ls hl => ?_)
            refine lv_goto (tgt := 67) hx hb dX3_sumWithJourney_114 (by decide) ?_
            have hL61 := el1_r (inj1 hg62) hL61
            exact ih9 _ _ _ _ _ hL61 hB (lv_sub hl [0, 1, 2, 3] rfl)
          have key79 : ∀ (n9 : Nat) (v83 : Int32) (v84 : Int64) (H : Heap) (locs : List Loc) (ls : Array Slot), loopM (fun st => mX3_sumWithJourney_L77 fu τs n v64 x20 pa β υ ω sid st.1 st.2) n9 (v83, v84) = some v77 → Bd (dC, dI) [(cyI, .int), (cyB, .byte), (cyO, .object "UndoJourneys$World")] (va_A (cU cyI cyB cyO ua ub up aw as' pa β υ ω sid τs n) s.heap.size) s (cU cyI cyB cyO ua ub up aw as' pa β υ ω sid τs n) H locs → lv_has ls 9 [(8, .int v83), (7, .int v64), (6, .int x20), (4, .long v84), (0, .ref ua)] → W p l e (headSpec wsX3_sumWithJourney rmX3_sumWithJourney).room s m ([.ref ua, .long i1, .int i2] : List Value).toArray below meth c H locs 0 0 (MQ below (QlF (dC, dI) [(cyI, .int), (cyB, .byte), (cyO, .object "UndoJourneys$World")] (cU cyI cyB cyO ua ub up aw as' pa β υ ω sid τs n) (cU cyI cyB cyO ua ub up aw as' pa β υ ω sid τs n) s.heap.size r) ([.ref ua, .long i1, .int i2] : List Value).toArray s 0 0 (va_A (cU cyI cyB cyO ua ub up aw as' pa β υ ω sid τs n) s.heap.size)) (F0 m 77 ls []) := by
            intro n9
            induction n9 with
            | zero => intro v83 v84 H locs ls hL80; exact (loopM_z hL80).elim
            | succ n9 ih9 =>
              intro v83 v84 H locs ls hL80 hB hl
              obtain ⟨o85, hg81, hL80⟩ := loopM_s hL80
              have hg81 : mX3_sumWithJourney_L77 fu τs n v64 x20 pa β υ ω sid v83 v84 = some o85 := hg81
              unfold mX3_sumWithJourney_L77 at hg81
              refine lv_iload hx hb dX3_sumWithJourney_77 (lv_at hl 0 rfl) ?_
              refine lv_bipush (v := (7 : Int32)) hx hb dX3_sumWithJourney_79 (by decide) ?_
              refine lv_icmp_ge (tgt := 111) hx hb dX3_sumWithJourney_81 (by decide) (fun c86 => ?_) (fun c86 => ?_)
              · have hg81 := ite_t c86 hg81
                have hL80 := el1_l (inj1 hg81) hL80
                have e0 := inj1 hL80
                subst e0
                exact kE78 _ _ _ hB (lv_sub hl [1, 2, 3, 4] rfl)
              · have hg81 := ite_f c86 hg81
                refine lv_ldc2 (v := (31 : Int64)) hx hb hown hq1 dX3_sumWithJourney_84 ?_
                refine lv_lload hx hb dX3_sumWithJourney_87 (lv_at hl 3 rfl) ?_
                refine lv_lmul hx hb dX3_sumWithJourney_89 ?_
                refine lv_aload_n hx hb dX3_sumWithJourney_90 rfl (lv_at hl 4 rfl) ?_
                refine g_get (C := RX3) (T := TX3) (N := 7) hx hb hts hinX3 hown hK hB 0 rfl rfl 3 rfl hq2 rfl rfl dX3_sumWithJourney_91 ?_
                refine lv_iload hx hb dX3_sumWithJourney_94 (lv_at hl 1 rfl) ?_
                refine lv_iload hx hb dX3_sumWithJourney_96 (lv_at hl 0 rfl) ?_
                obtain ⟨_, g87, hg81⟩ := ob1_s hg81
                have g87 := gW_s g87
                obtain ⟨r88, hc, hg81⟩ := ob1_s hg81
                refine g_pcutVi (As := [.int v64, .int v83]) (rest := [.long ((31 : Int64) * v84)]) (w2 := (cU cyI cyB cyO ua ub up aw as' pa β υ ω sid τs n)) ⟨hx, hb, hml, hown, hts⟩ (kX2_numberOfStep l dC dI cyI (aw 0) (as' (sid 0)) H.size hc) (cwV 2 hts gX3_sumWithJourney_X2_numberOfStep rfl rfl rfl (by decide +kernel) ⟨Nat.le_of_ble_eq_true rfl, Nat.le_of_ble_eq_true rfl⟩) (hK.sub [0] rfl) hB hA (g_recv (ci := 2) hK (hB.perm (cU_view cyI cyB cyO ua ub up aw as' pa β υ ω sid τs n g87)) 0 rfl rfl rfl) (cU_view cyI cyB cyO ua ub up aw as' pa β υ ω sid τs n g87) (cU_view cyI cyB cyO ua ub up aw as' pa β υ ω sid τs n g87).symm rfl hl.1 rfl (Nat.le_of_ble_eq_true rfl) dX3_sumWithJourney_98 ⟨Nat.le_of_ble_eq_true rfl, Nat.le_of_ble_eq_true rfl⟩ (fun H locs hB => ?_)
                refine lv_i2l hx hb dX3_sumWithJourney_101 rfl ?_
                refine lv_ladd hx hb dX3_sumWithJourney_102 ?_
                refine lv_lstore (lv' := [(4, .long (((31 : Int64) * v84) + (r88.toInt64))), (8, .int v83), (7, .int v64), (6, .int x20), (0, .ref ua)]) hx hb dX3_sumWithJourney_103 hl (by decide) rfl (fun ls hl => ?_)
                refine lv_iinc (v := (v83 + (1 : Int32))) (lv' := [(8, .int (v83 + (1 : Int32))), (4, .long (((31 : Int64) * v84) + (r88.toInt64))), (7, .int v64), (6, .int x20), (0, .ref ua)]) hx hb dX3_sumWithJourney_105 hl (k := 1) rfl rfl (by decide) rfl (fun ls hl => ?_)
                refine lv_goto (tgt := 77) hx hb dX3_sumWithJourney_108 (by decide) ?_
                have hL80 := el1_r (inj1 hg81) hL80
                exact ih9 _ _ _ _ _ hL80 hB (lv_sub hl [0, 2, 3, 1, 4] rfl)
          exact key79 fu _ _ _ _ _ hL80 hB (lv_sub hl [0, 1, 2, 3, 4] rfl)
    exact key60 fu _ _ _ _ _ hL61 hB (lv_sub hl [0, 1, 2, 3] rfl)
  have key14 : ∀ (n9 : Nat) (v90 : Int32) (v91 : Int64) (H : Heap) (locs : List Loc) (ls : Array Slot), loopM (fun st => mX3_sumWithJourney_L6 fu τs n i2 pa β υ ω sid st.1 st.2) n9 (v90, v91) = some v12 → Bd (dC, dI) [(cyI, .int), (cyB, .byte), (cyO, .object "UndoJourneys$World")] (va_A (cU cyI cyB cyO ua ub up aw as' pa β υ ω sid τs n) s.heap.size) s (cU cyI cyB cyO ua ub up aw as' pa β υ ω sid τs n) H locs → lv_has ls 9 [(6, .int v90), (4, .long v91), (0, .ref ua), (3, .int i2)] → W p l e (headSpec wsX3_sumWithJourney rmX3_sumWithJourney).room s m ([.ref ua, .long i1, .int i2] : List Value).toArray below meth c H locs 0 0 (MQ below (QlF (dC, dI) [(cyI, .int), (cyB, .byte), (cyO, .object "UndoJourneys$World")] (cU cyI cyB cyO ua ub up aw as' pa β υ ω sid τs n) (cU cyI cyB cyO ua ub up aw as' pa β υ ω sid τs n) s.heap.size r) ([.ref ua, .long i1, .int i2] : List Value).toArray s 0 0 (va_A (cU cyI cyB cyO ua ub up aw as' pa β υ ω sid τs n) s.heap.size)) (F0 m 6 ls []) := by
    intro n9
    induction n9 with
    | zero => intro v90 v91 H locs ls hL15; exact (loopM_z hL15).elim
    | succ n9 ih9 =>
      intro v90 v91 H locs ls hL15 hB hl
      obtain ⟨o92, hg16, hL15⟩ := loopM_s hL15
      have hg16 : mX3_sumWithJourney_L6 fu τs n i2 pa β υ ω sid v90 v91 = some o92 := hg16
      unfold mX3_sumWithJourney_L6 at hg16
      refine lv_iload hx hb dX3_sumWithJourney_6 (lv_at hl 0 rfl) ?_
      refine lv_bipush (v := (7 : Int32)) hx hb dX3_sumWithJourney_8 (by decide) ?_
      refine lv_icmp_ge (tgt := 39) hx hb dX3_sumWithJourney_10 (by decide) (fun c93 => ?_) (fun c93 => ?_)
      · have hg16 := ite_t c93 hg16
        have hL15 := el1_l (inj1 hg16) hL15
        have e0 := inj1 hL15
        subst e0
        exact kE13 _ _ _ hB (lv_sub hl [1, 2, 3] rfl)
      · have hg16 := ite_f c93 hg16
        refine lv_ldc2 (v := (31 : Int64)) hx hb hown hq1 dX3_sumWithJourney_13 ?_
        refine lv_lload hx hb dX3_sumWithJourney_16 (lv_at hl 1 rfl) ?_
        refine lv_lmul hx hb dX3_sumWithJourney_18 ?_
        refine lv_aload_n hx hb dX3_sumWithJourney_19 rfl (lv_at hl 2 rfl) ?_
        refine g_get (C := RX3) (T := TX3) (N := 7) hx hb hts hinX3 hown hK hB 0 rfl rfl 3 rfl hq2 rfl rfl dX3_sumWithJourney_20 ?_
        refine lv_iload_n hx hb dX3_sumWithJourney_23 rfl (lv_at hl 3 rfl) ?_
        refine lv_iload hx hb dX3_sumWithJourney_24 (lv_at hl 0 rfl) ?_
        obtain ⟨_, g94, hg16⟩ := ob1_s hg16
        have g94 := gW_s g94
        obtain ⟨r95, hc, hg16⟩ := ob1_s hg16
        refine g_pcutVi (As := [.int i2, .int v90]) (rest := [.long ((31 : Int64) * v91)]) (w2 := (cU cyI cyB cyO ua ub up aw as' pa β υ ω sid τs n)) ⟨hx, hb, hml, hown, hts⟩ (kX2_numberOfJourney l dC dI cyI (aw 0) (as' (sid 0)) H.size hc) (cwV 2 hts gX3_sumWithJourney_X2_numberOfJourney rfl rfl rfl (by decide +kernel) ⟨Nat.le_of_ble_eq_true rfl, Nat.le_of_ble_eq_true rfl⟩) (hK.sub [0] rfl) hB hA (g_recv (ci := 2) hK (hB.perm (cU_view cyI cyB cyO ua ub up aw as' pa β υ ω sid τs n g94)) 0 rfl rfl rfl) (cU_view cyI cyB cyO ua ub up aw as' pa β υ ω sid τs n g94) (cU_view cyI cyB cyO ua ub up aw as' pa β υ ω sid τs n g94).symm rfl hl.1 rfl (Nat.le_of_ble_eq_true rfl) dX3_sumWithJourney_26 ⟨Nat.le_of_ble_eq_true rfl, Nat.le_of_ble_eq_true rfl⟩ (fun H locs hB => ?_)
        refine lv_i2l hx hb dX3_sumWithJourney_29 rfl ?_
        refine lv_ladd hx hb dX3_sumWithJourney_30 ?_
        refine lv_lstore (lv' := [(4, .long (((31 : Int64) * v91) + (r95.toInt64))), (6, .int v90), (0, .ref ua), (3, .int i2)]) hx hb dX3_sumWithJourney_31 hl (by decide) rfl (fun ls hl => ?_)
        refine lv_iinc (v := (v90 + (1 : Int32))) (lv' := [(6, .int (v90 + (1 : Int32))), (4, .long (((31 : Int64) * v91) + (r95.toInt64))), (0, .ref ua), (3, .int i2)]) hx hb dX3_sumWithJourney_33 hl (k := 1) rfl rfl (by decide) rfl (fun ls hl => ?_)
        refine lv_goto (tgt := 6) hx hb dX3_sumWithJourney_36 (by decide) ?_
        have hL15 := el1_r (inj1 hg16) hL15
        exact ih9 _ _ _ _ _ hL15 hB (lv_sub hl [0, 1, 2, 3] rfl)
  exact key14 fu _ _ _ _ _ hL15 hB (lv_sub hl [0, 1, 2, 4] rfl)

abbrev rmX3_checksum : Room := { frames := 4, cells := 0, slots := 0, locals := 92 }

set_option maxHeartbeats 4000000 in
set_option maxRecDepth 100000 in
theorem kX3_checksum (l : Launch) (dC : Nat → ClassId) (dI : Nat → Nat → Nat) (cyI cyB cyO : ClassId) (ua ub up : Nat) (aw as' : Nat → Nat → Nat) (sz : Nat) {fu : Nat} {τs : WS} {n : Nat} {pa : PA} {β : FS} {υ : MS} {ω : WS} {sid : PA} {r : Int64} (hf : mX3_checksum fu τs n pa β υ ω sid = some r) : Met l yX3_checksum wsX3_checksum rmX3_checksum (PcF (dC, dI) [(cyI, .int), (cyB, .byte), (cyO, .object "UndoJourneys$World")] (cU cyI cyB cyO ua ub up aw as' pa β υ ω sid τs n) sz [.ref ua]) (QlF (dC, dI) [(cyI, .int), (cyB, .byte), (cyO, .object "UndoJourneys$World")] (cU cyI cyB cyO ua ub up aw as' pa β υ ω sid τs n) (cU cyI cyB cyO ua ub up aw as' pa β υ ω sid τs n) sz r) 0 0 (va_A (cU cyI cyB cyO ua ub up aw as' pa β υ ω sid τs n) sz) := by
  refine Met.ofW (cc := cX3_checksum) (maxL := 5) (ret := (some .long)) (by decide) rfl ?_
  intro p e s m args below meth c s₁ B hml hv
  obtain ⟨rfl, hsz, hP, hK, hD0⟩ := hv
  have hx := B.exec
  have hb := B.bytes
  have hr := B.returns
  have hts := atoms_spec (ws := wsX3_checksum) B.pre
  have hown : s.vm.findClass RX3 = some m.cls := findClass_of_methodNamed B.named
  have hlocks := B.notSynchronized
  subst hsz
  have hA : ∀ q : Nat, s.heap.size ≤ q → va_A (cU cyI cyB cyO ua ub up aw as' pa β υ ω sid τs n) s.heap.size q := fun q h => Or.inr h
  have hB : Bd (dC, dI) [(cyI, .int), (cyB, .byte), (cyO, .object "UndoJourneys$World")] (va_A (cU cyI cyB cyO ua ub up aw as' pa β υ ω sid τs n) s.heap.size) s (cU cyI cyB cyO ua ub up aw as' pa β υ ω sid τs n) s.heap [] := ⟨hP, hD0.self, va_S.rf⟩
  have hq1 : (Cond.constantLong RX3 167 (31)).before _ s = true := hts _ (List.mem_of_getElem? (i := 1) rfl)
  have hq2 : (Cond.fieldLink RX3 35 "UndoJourneys" "now" "LUndoJourneys$World;").before _ s = true := hts _ (List.mem_of_getElem? (i := 2) rfl)
  have hq3 : (Cond.fieldLink RX3 77 "UndoJourneys$World" "setup" "LUndoJourneys$Setup;").before _ s = true := hts _ (List.mem_of_getElem? (i := 3) rfl)
  have hq4 : (Cond.fieldLink RX3 169 "UndoJourneys$Setup" "stocks" "I").before _ s = true := hts _ (List.mem_of_getElem? (i := 4) rfl)
  have hq5 : (Cond.fieldLink RX3 78 "UndoJourneys$Setup" "journeys" "I").before _ s = true := hts _ (List.mem_of_getElem? (i := 5) rfl)
  have hinX0 : ∀ w ∈ wsX00, w ∈ wsX3_checksum := fun w h => List.mem_cons_of_mem _ (List.mem_append_right _ h)
  have hinX2 : ∀ w ∈ wsX20, w ∈ wsX3_checksum := fun w h => List.mem_cons_of_mem _ (List.mem_append_left _ (List.mem_append_right _ h))
  have hinX3 : ∀ w ∈ wsX30, w ∈ wsX3_checksum := fun w h => List.mem_cons_of_mem _ (List.mem_append_left _ (List.mem_append_left _ (List.mem_append_right _ h)))
  have hl := lv_entry [.ref ua] (n := 5) (Nat.le_of_ble_eq_true rfl)
  rw [lg_entry_eq]
  generalize (lg_sl [.ref ua] ++ List.replicate (5 - (lg_sl [.ref ua]).length) Slot.unset).toArray = ls at hl ⊢
  have hl : lv_has ls 5 [(0, .ref ua)] := hl
  clear hP hD0
  suffices main : ∀ (H : Heap) (locs : List Loc), Bd (dC, dI) [(cyI, .int), (cyB, .byte), (cyO, .object "UndoJourneys$World")] (va_A (cU cyI cyB cyO ua ub up aw as' pa β υ ω sid τs n) s.heap.size) s (cU cyI cyB cyO ua ub up aw as' pa β υ ω sid τs n) H locs → W p l e (headSpec wsX3_checksum rmX3_checksum).room s m ([.ref ua] : List Value).toArray below meth c H locs 0 0 (MQ below (QlF (dC, dI) [(cyI, .int), (cyB, .byte), (cyO, .object "UndoJourneys$World")] (cU cyI cyB cyO ua ub up aw as' pa β υ ω sid τs n) (cU cyI cyB cyO ua ub up aw as' pa β υ ω sid τs n) s.heap.size r) ([.ref ua] : List Value).toArray s 0 0 (va_A (cU cyI cyB cyO ua ub up aw as' pa β υ ω sid τs n) s.heap.size)) (F0 m 0 ls []) from main _ _ hB
  clear hB
  intro H locs hB
  unfold mX3_checksum at hf
  refine lv_lconst (v := (0 : Int64)) hx hb dX3_checksum_0 (by decide) ?_
  refine lv_lstore_n (lv' := [(1, .long (0 : Int64)), (0, .ref ua)]) hx hb dX3_checksum_1 rfl hl (by decide) rfl (fun ls hl => ?_)
  refine lv_iconst (v := (0 : Int32)) hx hb dX3_checksum_2 (by decide) ?_
  refine lv_istore_n (lv' := [(3, .int (0 : Int32)), (1, .long (0 : Int64)), (0, .ref ua)]) hx hb dX3_checksum_3 rfl hl (by decide) rfl (fun ls hl => ?_)
  obtain ⟨v11, hL14, hf⟩ := ob1_s hf
  have kE12 : ∀ (H : Heap) (locs : List Loc) (ls : Array Slot), Bd (dC, dI) [(cyI, .int), (cyB, .byte), (cyO, .object "UndoJourneys$World")] (va_A (cU cyI cyB cyO ua ub up aw as' pa β υ ω sid τs n) s.heap.size) s (cU cyI cyB cyO ua ub up aw as' pa β υ ω sid τs n) H locs → lv_has ls 5 [(1, .long v11), (0, .ref ua)] → W p l e (headSpec wsX3_checksum rmX3_checksum).room s m ([.ref ua] : List Value).toArray below meth c H locs 0 0 (MQ below (QlF (dC, dI) [(cyI, .int), (cyB, .byte), (cyO, .object "UndoJourneys$World")] (cU cyI cyB cyO ua ub up aw as' pa β υ ω sid τs n) (cU cyI cyB cyO ua ub up aw as' pa β υ ω sid τs n) s.heap.size r) ([.ref ua] : List Value).toArray s 0 0 (va_A (cU cyI cyB cyO ua ub up aw as' pa β υ ω sid τs n) s.heap.size)) (F0 m 32 ls []) := by
    intro H locs ls hB hl
    refine lv_iconst (v := (0 : Int32)) hx hb dX3_checksum_32 (by decide) ?_
    refine lv_istore_n (lv' := [(3, .int (0 : Int32)), (1, .long v11), (0, .ref ua)]) hx hb dX3_checksum_33 rfl hl (by decide) rfl (fun ls hl => ?_)
    obtain ⟨v49, hL52, hf⟩ := ob1_s hf
    have kE50 : ∀ (H : Heap) (locs : List Loc) (ls : Array Slot), Bd (dC, dI) [(cyI, .int), (cyB, .byte), (cyO, .object "UndoJourneys$World")] (va_A (cU cyI cyB cyO ua ub up aw as' pa β υ ω sid τs n) s.heap.size) s (cU cyI cyB cyO ua ub up aw as' pa β υ ω sid τs n) H locs → lv_has ls 5 [(1, .long v49), (0, .ref ua)] → W p l e (headSpec wsX3_checksum rmX3_checksum).room s m ([.ref ua] : List Value).toArray below meth c H locs 0 0 (MQ below (QlF (dC, dI) [(cyI, .int), (cyB, .byte), (cyO, .object "UndoJourneys$World")] (cU cyI cyB cyO ua ub up aw as' pa β υ ω sid τs n) (cU cyI cyB cyO ua ub up aw as' pa β υ ω sid τs n) s.heap.size r) ([.ref ua] : List Value).toArray s 0 0 (va_A (cU cyI cyB cyO ua ub up aw as' pa β υ ω sid τs n) s.heap.size)) (F0 m 88 ls []) := by
      intro H locs ls hB hl
      refine lv_iconst (v := (0 : Int32)) hx hb dX3_checksum_88 (by decide) ?_
      refine lv_istore_n (lv' := [(3, .int (0 : Int32)), (1, .long v49), (0, .ref ua)]) hx hb dX3_checksum_89 rfl hl (by decide) rfl (fun ls hl => ?_)
      obtain ⟨v65, hL68, hf⟩ := ob1_s hf
      have kE66 : ∀ (H : Heap) (locs : List Loc) (ls : Array Slot), Bd (dC, dI) [(cyI, .int), (cyB, .byte), (cyO, .object "UndoJourneys$World")] (va_A (cU cyI cyB cyO ua ub up aw as' pa β υ ω sid τs n) s.heap.size) s (cU cyI cyB cyO ua ub up aw as' pa β υ ω sid τs n) H locs → lv_has ls 5 [(1, .long v65)] → W p l e (headSpec wsX3_checksum rmX3_checksum).room s m ([.ref ua] : List Value).toArray below meth c H locs 0 0 (MQ below (QlF (dC, dI) [(cyI, .int), (cyB, .byte), (cyO, .object "UndoJourneys$World")] (cU cyI cyB cyO ua ub up aw as' pa β υ ω sid τs n) (cU cyI cyB cyO ua ub up aw as' pa β υ ω sid τs n) s.heap.size r) ([.ref ua] : List Value).toArray s 0 0 (va_A (cU cyI cyB cyO ua ub up aw as' pa β υ ω sid τs n) s.heap.size)) (F0 m 117 ls []) := by
        intro H locs ls hB hl
        refine lv_lload_n hx hb dX3_checksum_117 rfl (lv_at hl 0 rfl) ?_
        have e0 := inj1 hf
        subst e0
        exact g_lret hx hb hr hlocks hK hB dX3_checksum_118
      have key67 : ∀ (n9 : Nat) (v71 : Int32) (v72 : Int64) (H : Heap) (locs : List Loc) (ls : Array Slot), loopM (fun st => mX3_checksum_L90 fu τs n pa β υ ω sid st.1 st.2) n9 (v71, v72) = some v65 → Bd (dC, dI) [(cyI, .int), (cyB, .byte), (cyO, .object "UndoJourneys$World")] (va_A (cU cyI cyB cyO ua ub up aw as' pa β υ ω sid τs n) s.heap.size) s (cU cyI cyB cyO ua ub up aw as' pa β υ ω sid τs n) H locs → lv_has ls 5 [(3, .int v71), (1, .long v72), (0, .ref ua)] → W p l e (headSpec wsX3_checksum rmX3_checksum).room s m ([.ref ua] : List Value).toArray below meth c H locs 0 0 (MQ below (QlF (dC, dI) [(cyI, .int), (cyB, .byte), (cyO, .object "UndoJourneys$World")] (cU cyI cyB cyO ua ub up aw as' pa β υ ω sid τs n) (cU cyI cyB cyO ua ub up aw as' pa β υ ω sid τs n) s.heap.size r) ([.ref ua] : List Value).toArray s 0 0 (va_A (cU cyI cyB cyO ua ub up aw as' pa β υ ω sid τs n) s.heap.size)) (F0 m 90 ls []) := by
        intro n9
        induction n9 with
        | zero => intro v71 v72 H locs ls hL68; exact (loopM_z hL68).elim
        | succ n9 ih9 =>
          intro v71 v72 H locs ls hL68 hB hl
          obtain ⟨o73, hg69, hL68⟩ := loopM_s hL68
          have hg69 : mX3_checksum_L90 fu τs n pa β υ ω sid v71 v72 = some o73 := hg69
          unfold mX3_checksum_L90 at hg69
          refine lv_iload_n hx hb dX3_checksum_90 rfl (lv_at hl 0 rfl) ?_
          refine lv_aload_n hx hb dX3_checksum_91 rfl (lv_at hl 2 rfl) ?_
          refine g_get (C := RX3) (T := TX3) (N := 7) hx hb hts hinX3 hown hK hB 0 rfl rfl 3 rfl hq2 rfl rfl dX3_checksum_92 ?_
          obtain ⟨_, g74, hg69⟩ := ob1_s hg69
          have g74 := gW_s g74
          refine g_get (C := RX2) (T := TX2) (N := 14) hx hb hts hinX2 hown hK (hB.perm (cU_view cyI cyB cyO ua ub up aw as' pa β υ ω sid τs n g74)) 0 rfl rfl 0 rfl hq3 rfl rfl dX3_checksum_95 ?_
          obtain ⟨_, g75, hg69⟩ := ob1_s hg69
          have g75 := gW_s g75
          refine g_get (C := RX0) (T := TX0) (N := 17) hx hb hts hinX0 hown hK (hB.perm (cU_view cyI cyB cyO ua ub up aw as' pa β υ ω sid τs n g75)) 12 rfl rfl 5 rfl hq5 rfl rfl dX3_checksum_98 ?_
          refine lv_icmp_ge (tgt := 117) hx hb dX3_checksum_101 (by decide) (fun c76 => ?_) (fun c76 => ?_)
          · have hg69 := ite_t c76 hg69
            have hL68 := el1_l (inj1 hg69) hL68
            have e0 := inj1 hL68
            subst e0
            exact kE66 _ _ _ hB (lv_sub hl [1] rfl)
          · have hg69 := ite_f c76 hg69
            refine lv_aload_n hx hb dX3_checksum_104 rfl (lv_at hl 2 rfl) ?_
            refine lv_lload_n hx hb dX3_checksum_105 rfl (lv_at hl 1 rfl) ?_
            refine lv_iload_n hx hb dX3_checksum_106 rfl (lv_at hl 0 rfl) ?_
            obtain ⟨r77, hc, hg69⟩ := ob1_s hg69
            refine g_callVl (As := [.long v72, .int v71]) (rest := []) ⟨hx, hb, hml, hown, hts⟩ (kX3_sumWithJourney l dC dI cyI cyB cyO ua ub up aw as' H.size hc) (cwV 2 hts gX3_checksum_X3_sumWithJourney rfl rfl rfl (by decide +kernel) ⟨Nat.le_of_ble_eq_true rfl, Nat.le_of_ble_eq_true rfl⟩) hK hB hA (g_recv (ci := 3) hK hB 0 rfl rfl rfl) rfl hl.1 rfl (Nat.le_of_ble_eq_true rfl) dX3_checksum_107 ⟨Nat.le_of_ble_eq_true rfl, Nat.le_of_ble_eq_true rfl⟩ (fun H locs hB => ?_)
            refine lv_lstore_n (lv' := [(1, .long r77), (3, .int v71), (0, .ref ua)]) hx hb dX3_checksum_110 rfl hl (by decide) rfl (fun ls hl => ?_)
            refine lv_iinc (v := (v71 + (1 : Int32))) (lv' := [(3, .int (v71 + (1 : Int32))), (1, .long r77), (0, .ref ua)]) hx hb dX3_checksum_111 hl (k := 1) rfl rfl (by decide) rfl (fun ls hl => ?_)
            refine lv_goto (tgt := 90) hx hb dX3_checksum_114 (by decide) ?_
            have hL68 := el1_r (inj1 hg69) hL68
            exact ih9 _ _ _ _ _ hL68 hB (lv_sub hl [0, 1, 2] rfl)
      exact key67 fu _ _ _ _ _ hL68 hB (lv_sub hl [0, 1, 2] rfl)
    have key51 : ∀ (n9 : Nat) (v79 : Int32) (v80 : Int64) (H : Heap) (locs : List Loc) (ls : Array Slot), loopM (fun st => mX3_checksum_L34 fu τs n pa β υ ω sid st.1 st.2) n9 (v79, v80) = some v49 → Bd (dC, dI) [(cyI, .int), (cyB, .byte), (cyO, .object "UndoJourneys$World")] (va_A (cU cyI cyB cyO ua ub up aw as' pa β υ ω sid τs n) s.heap.size) s (cU cyI cyB cyO ua ub up aw as' pa β υ ω sid τs n) H locs → lv_has ls 5 [(3, .int v79), (1, .long v80), (0, .ref ua)] → W p l e (headSpec wsX3_checksum rmX3_checksum).room s m ([.ref ua] : List Value).toArray below meth c H locs 0 0 (MQ below (QlF (dC, dI) [(cyI, .int), (cyB, .byte), (cyO, .object "UndoJourneys$World")] (cU cyI cyB cyO ua ub up aw as' pa β υ ω sid τs n) (cU cyI cyB cyO ua ub up aw as' pa β υ ω sid τs n) s.heap.size r) ([.ref ua] : List Value).toArray s 0 0 (va_A (cU cyI cyB cyO ua ub up aw as' pa β υ ω sid τs n) s.heap.size)) (F0 m 34 ls []) := by
      intro n9
      induction n9 with
      | zero => intro v79 v80 H locs ls hL52; exact (loopM_z hL52).elim
      | succ n9 ih9 =>
        intro v79 v80 H locs ls hL52 hB hl
        obtain ⟨o81, hg53, hL52⟩ := loopM_s hL52
        have hg53 : mX3_checksum_L34 fu τs n pa β υ ω sid v79 v80 = some o81 := hg53
        unfold mX3_checksum_L34 at hg53
        refine lv_iload_n hx hb dX3_checksum_34 rfl (lv_at hl 0 rfl) ?_
        refine lv_aload_n hx hb dX3_checksum_35 rfl (lv_at hl 2 rfl) ?_
        refine g_get (C := RX3) (T := TX3) (N := 7) hx hb hts hinX3 hown hK hB 0 rfl rfl 3 rfl hq2 rfl rfl dX3_checksum_36 ?_
        obtain ⟨_, g82, hg53⟩ := ob1_s hg53
        have g82 := gW_s g82
        refine g_get (C := RX2) (T := TX2) (N := 14) hx hb hts hinX2 hown hK (hB.perm (cU_view cyI cyB cyO ua ub up aw as' pa β υ ω sid τs n g82)) 0 rfl rfl 0 rfl hq3 rfl rfl dX3_checksum_39 ?_
        obtain ⟨_, g83, hg53⟩ := ob1_s hg53
        have g83 := gW_s g83
        refine g_get (C := RX0) (T := TX0) (N := 17) hx hb hts hinX0 hown hK (hB.perm (cU_view cyI cyB cyO ua ub up aw as' pa β υ ω sid τs n g83)) 12 rfl rfl 2 rfl hq4 rfl rfl dX3_checksum_42 ?_
        refine lv_icmp_ge (tgt := 88) hx hb dX3_checksum_45 (by decide) (fun c84 => ?_) (fun c84 => ?_)
        · have hg53 := ite_t c84 hg53
          have hL52 := el1_l (inj1 hg53) hL52
          have e0 := inj1 hL52
          subst e0
          exact kE50 _ _ _ hB (lv_sub hl [1, 2] rfl)
        · have hg53 := ite_f c84 hg53
          refine lv_iconst (v := (0 : Int32)) hx hb dX3_checksum_48 (by decide) ?_
          refine lv_istore (lv' := [(4, .int (0 : Int32)), (3, .int v79), (1, .long v80), (0, .ref ua)]) hx hb dX3_checksum_49 hl (by decide) rfl (fun ls hl => ?_)
          obtain ⟨v93, hL96, hg53⟩ := ob1_s hg53
          have kE94 : ∀ (H : Heap) (locs : List Loc) (ls : Array Slot), Bd (dC, dI) [(cyI, .int), (cyB, .byte), (cyO, .object "UndoJourneys$World")] (va_A (cU cyI cyB cyO ua ub up aw as' pa β υ ω sid τs n) s.heap.size) s (cU cyI cyB cyO ua ub up aw as' pa β υ ω sid τs n) H locs → lv_has ls 5 [(3, .int v79), (1, .long v93), (0, .ref ua)] → W p l e (headSpec wsX3_checksum rmX3_checksum).room s m ([.ref ua] : List Value).toArray below meth c H locs 0 0 (MQ below (QlF (dC, dI) [(cyI, .int), (cyB, .byte), (cyO, .object "UndoJourneys$World")] (cU cyI cyB cyO ua ub up aw as' pa β υ ω sid τs n) (cU cyI cyB cyO ua ub up aw as' pa β υ ω sid τs n) s.heap.size r) ([.ref ua] : List Value).toArray s 0 0 (va_A (cU cyI cyB cyO ua ub up aw as' pa β υ ω sid τs n) s.heap.size)) (F0 m 82 ls []) := by
            intro H locs ls hB hl
            refine lv_iinc (v := (v79 + (1 : Int32))) (lv' := [(3, .int (v79 + (1 : Int32))), (1, .long v93), (0, .ref ua)]) hx hb dX3_checksum_82 hl (k := 0) rfl rfl (by decide) rfl (fun ls hl => ?_)
            refine lv_goto (tgt := 34) hx hb dX3_checksum_85 (by decide) ?_
            have hL52 := el1_r (inj1 hg53) hL52
            exact ih9 _ _ _ _ _ hL52 hB (lv_sub hl [0, 1, 2] rfl)
          have key95 : ∀ (n9 : Nat) (v99 : Int32) (v100 : Int64) (H : Heap) (locs : List Loc) (ls : Array Slot), loopM (fun st => mX3_checksum_L51 fu τs n v79 pa β υ ω sid st.1 st.2) n9 (v99, v100) = some v93 → Bd (dC, dI) [(cyI, .int), (cyB, .byte), (cyO, .object "UndoJourneys$World")] (va_A (cU cyI cyB cyO ua ub up aw as' pa β υ ω sid τs n) s.heap.size) s (cU cyI cyB cyO ua ub up aw as' pa β υ ω sid τs n) H locs → lv_has ls 5 [(4, .int v99), (3, .int v79), (1, .long v100), (0, .ref ua)] → W p l e (headSpec wsX3_checksum rmX3_checksum).room s m ([.ref ua] : List Value).toArray below meth c H locs 0 0 (MQ below (QlF (dC, dI) [(cyI, .int), (cyB, .byte), (cyO, .object "UndoJourneys$World")] (cU cyI cyB cyO ua ub up aw as' pa β υ ω sid τs n) (cU cyI cyB cyO ua ub up aw as' pa β υ ω sid τs n) s.heap.size r) ([.ref ua] : List Value).toArray s 0 0 (va_A (cU cyI cyB cyO ua ub up aw as' pa β υ ω sid τs n) s.heap.size)) (F0 m 51 ls []) := by
            intro n9
            induction n9 with
            | zero => intro v99 v100 H locs ls hL96; exact (loopM_z hL96).elim
            | succ n9 ih9 =>
              intro v99 v100 H locs ls hL96 hB hl
              obtain ⟨o101, hg97, hL96⟩ := loopM_s hL96
              have hg97 : mX3_checksum_L51 fu τs n v79 pa β υ ω sid v99 v100 = some o101 := hg97
              unfold mX3_checksum_L51 at hg97
              refine lv_iload hx hb dX3_checksum_51 (lv_at hl 0 rfl) ?_
              refine lv_bipush (v := (6 : Int32)) hx hb dX3_checksum_53 (by decide) ?_
              refine lv_icmp_ge (tgt := 82) hx hb dX3_checksum_55 (by decide) (fun c102 => ?_) (fun c102 => ?_)
              · have hg97 := ite_t c102 hg97
                have hL96 := el1_l (inj1 hg97) hL96
                have e0 := inj1 hL96
                subst e0
                exact kE94 _ _ _ hB (lv_sub hl [1, 2, 3] rfl)
              · have hg97 := ite_f c102 hg97
                refine lv_ldc2 (v := (31 : Int64)) hx hb hown hq1 dX3_checksum_58 ?_
                refine lv_lload_n hx hb dX3_checksum_61 rfl (lv_at hl 2 rfl) ?_
                refine lv_lmul hx hb dX3_checksum_62 ?_
                refine lv_aload_n hx hb dX3_checksum_63 rfl (lv_at hl 3 rfl) ?_
                refine g_get (C := RX3) (T := TX3) (N := 7) hx hb hts hinX3 hown hK hB 0 rfl rfl 3 rfl hq2 rfl rfl dX3_checksum_64 ?_
                refine lv_iload_n hx hb dX3_checksum_67 rfl (lv_at hl 1 rfl) ?_
                refine lv_iload hx hb dX3_checksum_68 (lv_at hl 0 rfl) ?_
                obtain ⟨_, g103, hg97⟩ := ob1_s hg97
                have g103 := gW_s g103
                obtain ⟨r104, hc, hg97⟩ := ob1_s hg97
                refine g_pcutVi (As := [.int v79, .int v99]) (rest := [.long ((31 : Int64) * v100)]) (w2 := (cU cyI cyB cyO ua ub up aw as' pa β υ ω sid τs n)) ⟨hx, hb, hml, hown, hts⟩ (kX2_numberOfStock l dC dI cyI (aw 0) (as' (sid 0)) H.size hc) (cwV 2 hts gX3_checksum_X2_numberOfStock rfl rfl rfl (by decide +kernel) ⟨Nat.le_of_ble_eq_true rfl, Nat.le_of_ble_eq_true rfl⟩) (hK.sub [0] rfl) hB hA (g_recv (ci := 2) hK (hB.perm (cU_view cyI cyB cyO ua ub up aw as' pa β υ ω sid τs n g103)) 0 rfl rfl rfl) (cU_view cyI cyB cyO ua ub up aw as' pa β υ ω sid τs n g103) (cU_view cyI cyB cyO ua ub up aw as' pa β υ ω sid τs n g103).symm rfl hl.1 rfl (Nat.le_of_ble_eq_true rfl) dX3_checksum_70 ⟨Nat.le_of_ble_eq_true rfl, Nat.le_of_ble_eq_true rfl⟩ (fun H locs hB => ?_)
                refine lv_i2l hx hb dX3_checksum_73 rfl ?_
                refine lv_ladd hx hb dX3_checksum_74 ?_
                refine lv_lstore_n (lv' := [(1, .long (((31 : Int64) * v100) + (r104.toInt64))), (4, .int v99), (3, .int v79), (0, .ref ua)]) hx hb dX3_checksum_75 rfl hl (by decide) rfl (fun ls hl => ?_)
                refine lv_iinc (v := (v99 + (1 : Int32))) (lv' := [(4, .int (v99 + (1 : Int32))), (1, .long (((31 : Int64) * v100) + (r104.toInt64))), (3, .int v79), (0, .ref ua)]) hx hb dX3_checksum_76 hl (k := 1) rfl rfl (by decide) rfl (fun ls hl => ?_)
                refine lv_goto (tgt := 51) hx hb dX3_checksum_79 (by decide) ?_
                have hL96 := el1_r (inj1 hg97) hL96
                exact ih9 _ _ _ _ _ hL96 hB (lv_sub hl [0, 2, 1, 3] rfl)
          exact key95 fu _ _ _ _ _ hL96 hB (lv_sub hl [0, 1, 2, 3] rfl)
    exact key51 fu _ _ _ _ _ hL52 hB (lv_sub hl [0, 1, 2] rfl)
  have key13 : ∀ (n9 : Nat) (v106 : Int32) (v107 : Int64) (H : Heap) (locs : List Loc) (ls : Array Slot), loopM (fun st => mX3_checksum_L4 fu τs n pa β υ ω sid st.1 st.2) n9 (v106, v107) = some v11 → Bd (dC, dI) [(cyI, .int), (cyB, .byte), (cyO, .object "UndoJourneys$World")] (va_A (cU cyI cyB cyO ua ub up aw as' pa β υ ω sid τs n) s.heap.size) s (cU cyI cyB cyO ua ub up aw as' pa β υ ω sid τs n) H locs → lv_has ls 5 [(3, .int v106), (1, .long v107), (0, .ref ua)] → W p l e (headSpec wsX3_checksum rmX3_checksum).room s m ([.ref ua] : List Value).toArray below meth c H locs 0 0 (MQ below (QlF (dC, dI) [(cyI, .int), (cyB, .byte), (cyO, .object "UndoJourneys$World")] (cU cyI cyB cyO ua ub up aw as' pa β υ ω sid τs n) (cU cyI cyB cyO ua ub up aw as' pa β υ ω sid τs n) s.heap.size r) ([.ref ua] : List Value).toArray s 0 0 (va_A (cU cyI cyB cyO ua ub up aw as' pa β υ ω sid τs n) s.heap.size)) (F0 m 4 ls []) := by
    intro n9
    induction n9 with
    | zero => intro v106 v107 H locs ls hL14; exact (loopM_z hL14).elim
    | succ n9 ih9 =>
      intro v106 v107 H locs ls hL14 hB hl
      obtain ⟨o108, hg15, hL14⟩ := loopM_s hL14
      have hg15 : mX3_checksum_L4 fu τs n pa β υ ω sid v106 v107 = some o108 := hg15
      unfold mX3_checksum_L4 at hg15
      refine lv_iload_n hx hb dX3_checksum_4 rfl (lv_at hl 0 rfl) ?_
      refine lv_bipush (v := (10 : Int32)) hx hb dX3_checksum_5 (by decide) ?_
      refine lv_icmp_ge (tgt := 32) hx hb dX3_checksum_7 (by decide) (fun c109 => ?_) (fun c109 => ?_)
      · have hg15 := ite_t c109 hg15
        have hL14 := el1_l (inj1 hg15) hL14
        have e0 := inj1 hL14
        subst e0
        exact kE12 _ _ _ hB (lv_sub hl [1, 2] rfl)
      · have hg15 := ite_f c109 hg15
        refine lv_ldc2 (v := (31 : Int64)) hx hb hown hq1 dX3_checksum_10 ?_
        refine lv_lload_n hx hb dX3_checksum_13 rfl (lv_at hl 1 rfl) ?_
        refine lv_lmul hx hb dX3_checksum_14 ?_
        refine lv_aload_n hx hb dX3_checksum_15 rfl (lv_at hl 2 rfl) ?_
        refine g_get (C := RX3) (T := TX3) (N := 7) hx hb hts hinX3 hown hK hB 0 rfl rfl 3 rfl hq2 rfl rfl dX3_checksum_16 ?_
        refine lv_iload_n hx hb dX3_checksum_19 rfl (lv_at hl 0 rfl) ?_
        obtain ⟨_, g110, hg15⟩ := ob1_s hg15
        have g110 := gW_s g110
        obtain ⟨r111, hc, hg15⟩ := ob1_s hg15
        refine g_pcutVi (As := [.int v106]) (rest := [.long ((31 : Int64) * v107)]) (w2 := (cU cyI cyB cyO ua ub up aw as' pa β υ ω sid τs n)) ⟨hx, hb, hml, hown, hts⟩ (kX2_numberOfAll l dC dI cyI (aw 0) (as' (sid 0)) H.size hc) (cwV 1 hts gX3_checksum_X2_numberOfAll rfl rfl rfl (by decide +kernel) ⟨Nat.le_of_ble_eq_true rfl, Nat.le_of_ble_eq_true rfl⟩) (hK.sub [0] rfl) hB hA (g_recv (ci := 2) hK (hB.perm (cU_view cyI cyB cyO ua ub up aw as' pa β υ ω sid τs n g110)) 0 rfl rfl rfl) (cU_view cyI cyB cyO ua ub up aw as' pa β υ ω sid τs n g110) (cU_view cyI cyB cyO ua ub up aw as' pa β υ ω sid τs n g110).symm rfl hl.1 rfl (Nat.le_of_ble_eq_true rfl) dX3_checksum_20 ⟨Nat.le_of_ble_eq_true rfl, Nat.le_of_ble_eq_true rfl⟩ (fun H locs hB => ?_)
        refine lv_i2l hx hb dX3_checksum_23 rfl ?_
        refine lv_ladd hx hb dX3_checksum_24 ?_
        refine lv_lstore_n (lv' := [(1, .long (((31 : Int64) * v107) + (r111.toInt64))), (3, .int v106), (0, .ref ua)]) hx hb dX3_checksum_25 rfl hl (by decide) rfl (fun ls hl => ?_)
        refine lv_iinc (v := (v106 + (1 : Int32))) (lv' := [(3, .int (v106 + (1 : Int32))), (1, .long (((31 : Int64) * v107) + (r111.toInt64))), (0, .ref ua)]) hx hb dX3_checksum_26 hl (k := 1) rfl rfl (by decide) rfl (fun ls hl => ?_)
        refine lv_goto (tgt := 4) hx hb dX3_checksum_29 (by decide) ?_
        have hL14 := el1_r (inj1 hg15) hL14
        exact ih9 _ _ _ _ _ hL14 hB (lv_sub hl [0, 1, 2] rfl)
  exact key13 fu _ _ _ _ _ hL14 hB (lv_sub hl [0, 1, 2] rfl)

