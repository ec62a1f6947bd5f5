abbrev rmL_flush : Room := { frames := 2, cells := 0, slots := 0, locals := 47 }

set_option maxHeartbeats 8000000 in
set_option maxRecDepth 100000 in
theorem kL_flush (l : Launch) (hl0 : l.stackTraces = false) (dC : Nat → ClassId) (dI : Nat → Nat → Nat) (cyI cyB cyO cyA cyT cyW cyZ : ClassId) (ua ub up : Nat) (aw as' : Nat → Nat → Nat) (kS : Nat → Nat) (bu : Nat) (sz : Nat) {fu : Nat} {τs : WS} {n : Nat} {pa : PA} {β : FS} {υ : MS} {ω : WS} {sid : PA} {b : FS} {β_ : FS} {υ_ : MS} {b_ : FS} (hf : mL_flush fu τs n pa β υ ω sid b = some (β_, υ_, b_)) : Met l yL_flush wqL_flush rmL_flush (PcE (dC, dI) [(cyI, .int), (cyB, .byte), (cyO, .object "UndoJourneys$World"), (cyA, .array .int), (cyT, .object "UndoJourneysLaw$Trip"), (cyW, .object "UndoJourneysLaw$World"), (cyZ, .boolean)] kS (wF [cU cyI cyB cyO ua ub up aw as' pa β υ ω sid τs n, [(bu, .inl (cyI, 8, .inl b))]]) sz [.ref ua, .ref bu]) (QvF (dC, dI) [(cyI, .int), (cyB, .byte), (cyO, .object "UndoJourneys$World"), (cyA, .array .int), (cyT, .object "UndoJourneysLaw$Trip"), (cyW, .object "UndoJourneysLaw$World"), (cyZ, .boolean)] (wF [cU cyI cyB cyO ua ub up aw as' pa β υ ω sid τs n, [(bu, .inl (cyI, 8, .inl b))]]) (wF [cU cyI cyB cyO ua ub up aw as' pa β_ υ_ ω sid τs n, [(bu, .inl (cyI, 8, .inl b_))]]) sz) 0 0 (va_A (wF [cU cyI cyB cyO ua ub up aw as' pa β υ ω sid τs n, [(bu, .inl (cyI, 8, .inl b))]]) sz) := by
  refine Met.ofW (cc := cL_flush) (maxL := 3) (ret := none) (by decide) rfl ?_
  intro p e s m args below meth c s₁ B hml hv
  obtain ⟨rfl, ⟨hsz, hP, hK, hD0⟩, hEV⟩ := hv
  obtain ⟨hEX, hNC, hJ, hNw, hNw3, hAOw, hN6, hN5, hAOT, hAOW, hAOA, hCl⟩ := id hEV
  have hx := B.exec
  have hb := B.bytes
  have hr := B.returns
  have hts := atoms_spec (ws := wqL_flush) B.pre
  have hgb : ∀ w ∈ gw_tbl, w ∈ wqL_flush := fun w h => List.mem_cons_of_mem _ h
  have hown : s.vm.findClass RL = some m.cls := findClass_of_methodNamed B.named
  have hlocks := B.notSynchronized
  subst hsz
  have hA : ∀ q : Nat, s.heap.size ≤ q → va_A (wF [cU cyI cyB cyO ua ub up aw as' pa β υ ω sid τs n, [(bu, .inl (cyI, 8, .inl b))]]) s.heap.size q := fun q h => Or.inr h
  have hB : Bd (dC, dI) [(cyI, .int), (cyB, .byte), (cyO, .object "UndoJourneys$World"), (cyA, .array .int), (cyT, .object "UndoJourneysLaw$Trip"), (cyW, .object "UndoJourneysLaw$World"), (cyZ, .boolean)] (va_A (wF [cU cyI cyB cyO ua ub up aw as' pa β υ ω sid τs n, [(bu, .inl (cyI, 8, .inl b))]]) s.heap.size) s (wF [cU cyI cyB cyO ua ub up aw as' pa β υ ω sid τs n, [(bu, .inl (cyI, 8, .inl b))]]) s.heap [] := ⟨hP, hD0.self, va_S.rf⟩
  have hl := lv_entry [.ref ua, .ref bu] (n := 3) (Nat.le_of_ble_eq_true rfl)
  rw [lg_entry_eq]
  generalize (lg_sl [.ref ua, .ref bu] ++ List.replicate (3 - (lg_sl [.ref ua, .ref bu]).length) Slot.unset).toArray = ls at hl ⊢
  have hl : lv_has ls 3 [(0, .ref ua), (1, .ref bu)] := hl
  clear hP hD0
  suffices main : ∀ (H : Heap) (locs : List Loc), Bd (dC, dI) [(cyI, .int), (cyB, .byte), (cyO, .object "UndoJourneys$World"), (cyA, .array .int), (cyT, .object "UndoJourneysLaw$Trip"), (cyW, .object "UndoJourneysLaw$World"), (cyZ, .boolean)] (va_A (wF [cU cyI cyB cyO ua ub up aw as' pa β υ ω sid τs n, [(bu, .inl (cyI, 8, .inl b))]]) s.heap.size) s (wF [cU cyI cyB cyO ua ub up aw as' pa β υ ω sid τs n, [(bu, .inl (cyI, 8, .inl b))]]) H locs → W p l e (headSpec wqL_flush rmL_flush).room s m ([.ref ua, .ref bu] : List Value).toArray below meth c H locs 0 0 (MQ below (QvF (dC, dI) [(cyI, .int), (cyB, .byte), (cyO, .object "UndoJourneys$World"), (cyA, .array .int), (cyT, .object "UndoJourneysLaw$Trip"), (cyW, .object "UndoJourneysLaw$World"), (cyZ, .boolean)] (wF [cU cyI cyB cyO ua ub up aw as' pa β υ ω sid τs n, [(bu, .inl (cyI, 8, .inl b))]]) (wF [cU cyI cyB cyO ua ub up aw as' pa β_ υ_ ω sid τs n, [(bu, .inl (cyI, 8, .inl b_))]]) s.heap.size) ([.ref ua, .ref bu] : List Value).toArray s 0 0 (va_A (wF [cU cyI cyB cyO ua ub up aw as' pa β υ ω sid τs n, [(bu, .inl (cyI, 8, .inl b))]]) s.heap.size)) (F0 m 0 ls []) from main _ _ hB
  clear hB
  intro H locs hB
  unfold mL_flush at hf
  refine lv_aload_n hx hb dL_flush_0 rfl (lv_at hl 0 rfl) ?_
  refine lv_aload_n hx hb dL_flush_1 rfl (lv_at hl 1 rfl) ?_
  refine lv_iconst (v := (1 : Int32)) hx hb dL_flush_2 (by decide) ?_
  obtain ⟨x1, e9, hf⟩ := ob1_s hf
  refine g_iald hx hb hK (hB.perm (wperm (L' := [[(bu, .inl (cyI, 8, .inl b))], cU cyI cyB cyO ua ub up aw as' pa β υ ω sid τs n]) [1, 0] (by decide +kernel) rfl rfl)) 0 0 rfl rfl (rd_s e9) dL_flush_3 ?_
  refine lv_aload_n hx hb dL_flush_4 rfl (lv_at hl 1 rfl) ?_
  refine lv_iconst (v := (2 : Int32)) hx hb dL_flush_5 (by decide) ?_
  obtain ⟨x2, e9, hf⟩ := ob1_s hf
  refine g_iald hx hb hK (hB.perm (wperm (L' := [[(bu, .inl (cyI, 8, .inl b))], cU cyI cyB cyO ua ub up aw as' pa β υ ω sid τs n]) [1, 0] (by decide +kernel) rfl rfl)) 0 0 rfl rfl (rd_s e9) dL_flush_6 ?_
  refine lv_aload_n hx hb dL_flush_7 rfl (lv_at hl 1 rfl) ?_
  refine lv_iconst (v := (3 : Int32)) hx hb dL_flush_8 (by decide) ?_
  obtain ⟨x3, e9, hf⟩ := ob1_s hf
  refine g_iald hx hb hK (hB.perm (wperm (L' := [[(bu, .inl (cyI, 8, .inl b))], cU cyI cyB cyO ua ub up aw as' pa β υ ω sid τs n]) [1, 0] (by decide +kernel) rfl rfl)) 0 0 rfl rfl (rd_s e9) dL_flush_9 ?_
  refine lv_aload_n hx hb dL_flush_10 rfl (lv_at hl 1 rfl) ?_
  refine lv_iconst (v := (4 : Int32)) hx hb dL_flush_11 (by decide) ?_
  obtain ⟨x4, e9, hf⟩ := ob1_s hf
  refine g_iald hx hb hK (hB.perm (wperm (L' := [[(bu, .inl (cyI, 8, .inl b))], cU cyI cyB cyO ua ub up aw as' pa β υ ω sid τs n]) [1, 0] (by decide +kernel) rfl rfl)) 0 0 rfl rfl (rd_s e9) dL_flush_12 ?_
  refine lv_aload_n hx hb dL_flush_13 rfl (lv_at hl 1 rfl) ?_
  refine lv_iconst (v := (5 : Int32)) hx hb dL_flush_14 (by decide) ?_
  obtain ⟨x5, e9, hf⟩ := ob1_s hf
  refine g_iald hx hb hK (hB.perm (wperm (L' := [[(bu, .inl (cyI, 8, .inl b))], cU cyI cyB cyO ua ub up aw as' pa β υ ω sid τs n]) [1, 0] (by decide +kernel) rfl rfl)) 0 0 rfl rfl (rd_s e9) dL_flush_15 ?_
  obtain ⟨r6, β7, υ8, hc, hf⟩ := ob3_s hf
  refine e_Vi (S := Unit) (As := [.int x1, .int x2, .int x3, .int x4, .int x5]) (rest := []) (wc := cU cyI cyB cyO ua ub up aw as' pa β υ ω sid τs n) (wr := (wF [[(bu, .inl (cyI, 8, .inl b))]])) (w1 := fun _ => cU cyI cyB cyO ua ub up aw as' pa β7 υ8 ω sid τs n) ⟨hx, hb, hml, hown, hts⟩ (kX3_append l dC dI cyI cyB cyO ua ub up aw as' H.size hc) (cwV 5 hts (gv_X3_append_13 hgb) rfl rfl rfl (by decide +kernel) ⟨(Nat.le_of_ble_eq_true rfl), (Nat.le_of_ble_eq_true rfl)⟩) (pcut_pre (hB.perm (wperm (L' := [cU cyI cyB cyO ua ub up aw as' pa β υ ω sid τs n, [(bu, .inl (cyI, 8, .inl b))]]) [0, 1] (by decide +kernel) rfl rfl)) (hK.sub [0, 1, 2] rfl) (.ref ua :: [.int x1, .int x2, .int x3, .int x4, .int x5])) hB hA (g_recv (ci := 3) hK (hB.perm (wperm (L' := [cU cyI cyB cyO ua ub up aw as' pa β υ ω sid τs n, [(bu, .inl (cyI, 8, .inl b))]]) [0, 1] (by decide +kernel) rfl rfl)) 0 rfl rfl rfl) (wperm (L' := [cU cyI cyB cyO ua ub up aw as' pa β υ ω sid τs n, [(bu, .inl (cyI, 8, .inl b))]]) [0, 1] (by decide +kernel) rfl rfl) rfl hl.1 rfl (Nat.le_of_ble_eq_true rfl) dL_flush_16 ⟨(Nat.le_of_ble_eq_true rfl), (Nat.le_of_ble_eq_true rfl)⟩ (fun r9 _ H locs hr9 hB => ?_)
  rw [hr9]
  have hB := hB.perm wF_un1
  have hB := hB.perm (wperm (L' := [cU cyI cyB cyO ua ub up aw as' pa β7 υ8 ω sid τs n, [(bu, .inl (cyI, 8, .inl b))]]) [0, 1] (by decide +kernel) rfl rfl)
  refine lv_pop hx hb dL_flush_19 rfl ?_
  refine lv_iconst (v := (1 : Int32)) hx hb dL_flush_20 (by decide) ?_
  refine lv_istore_n (lv' := [(2, .int (1 : Int32)), (0, .ref ua), (1, .ref bu)]) hx hb dL_flush_21 rfl hl (by decide) rfl (fun ls hl => ?_)
  obtain ⟨b20, hL23, hf⟩ := ob1_s hf
  have kE21 : ∀  (H : Heap) (locs : List Loc) (ls : Array Slot), Bd (dC, dI) [(cyI, .int), (cyB, .byte), (cyO, .object "UndoJourneys$World"), (cyA, .array .int), (cyT, .object "UndoJourneysLaw$Trip"), (cyW, .object "UndoJourneysLaw$World"), (cyZ, .boolean)] (va_A (wF [cU cyI cyB cyO ua ub up aw as' pa β υ ω sid τs n, [(bu, .inl (cyI, 8, .inl b))]]) s.heap.size) s (wF [cU cyI cyB cyO ua ub up aw as' pa β7 υ8 ω sid τs n, [(bu, .inl (cyI, 8, .inl b20))]]) H locs → lv_has ls 3 [] → W p l e (headSpec wqL_flush rmL_flush).room s m ([.ref ua, .ref bu] : List Value).toArray below meth c H locs 0 0 (MQ below (QvF (dC, dI) [(cyI, .int), (cyB, .byte), (cyO, .object "UndoJourneys$World"), (cyA, .array .int), (cyT, .object "UndoJourneysLaw$Trip"), (cyW, .object "UndoJourneysLaw$World"), (cyZ, .boolean)] (wF [cU cyI cyB cyO ua ub up aw as' pa β υ ω sid τs n, [(bu, .inl (cyI, 8, .inl b))]]) (wF [cU cyI cyB cyO ua ub up aw as' pa β_ υ_ ω sid τs n, [(bu, .inl (cyI, 8, .inl b_))]]) s.heap.size) ([.ref ua, .ref bu] : List Value).toArray s 0 0 (va_A (wF [cU cyI cyB cyO ua ub up aw as' pa β υ ω sid τs n, [(bu, .inl (cyI, 8, .inl b))]]) s.heap.size)) (F0 m 38 ls []) := by
    intro H locs ls hB hl
    obtain ⟨e0, e1, e2⟩ := inj3 hf
    subst e0
    subst e1
    subst e2
    exact g_lvret (v := 0) (r := 0) hx hb hr hlocks hK hB (Nat.le_of_ble_eq_true rfl) (Nat.le_of_ble_eq_true rfl) dL_flush_38
  have key22 : ∀ (n9 : Nat) (v26 : Int32) (b27 : FS)  (H : Heap) (locs : List Loc) (ls : Array Slot), loopM (fun st => mL_flush_L22 fu τs n pa β7 υ8 ω sid st.1 st.2) n9 (v26, b27) = some b20 → Bd (dC, dI) [(cyI, .int), (cyB, .byte), (cyO, .object "UndoJourneys$World"), (cyA, .array .int), (cyT, .object "UndoJourneysLaw$Trip"), (cyW, .object "UndoJourneysLaw$World"), (cyZ, .boolean)] (va_A (wF [cU cyI cyB cyO ua ub up aw as' pa β υ ω sid τs n, [(bu, .inl (cyI, 8, .inl b))]]) s.heap.size) s (wF [cU cyI cyB cyO ua ub up aw as' pa β7 υ8 ω sid τs n, [(bu, .inl (cyI, 8, .inl b27))]]) H locs → lv_has ls 3 [(2, .int v26), (1, .ref bu)] → W p l e (headSpec wqL_flush rmL_flush).room s m ([.ref ua, .ref bu] : List Value).toArray below meth c H locs 0 0 (MQ below (QvF (dC, dI) [(cyI, .int), (cyB, .byte), (cyO, .object "UndoJourneys$World"), (cyA, .array .int), (cyT, .object "UndoJourneysLaw$Trip"), (cyW, .object "UndoJourneysLaw$World"), (cyZ, .boolean)] (wF [cU cyI cyB cyO ua ub up aw as' pa β υ ω sid τs n, [(bu, .inl (cyI, 8, .inl b))]]) (wF [cU cyI cyB cyO ua ub up aw as' pa β_ υ_ ω sid τs n, [(bu, .inl (cyI, 8, .inl b_))]]) s.heap.size) ([.ref ua, .ref bu] : List Value).toArray s 0 0 (va_A (wF [cU cyI cyB cyO ua ub up aw as' pa β υ ω sid τs n, [(bu, .inl (cyI, 8, .inl b))]]) s.heap.size)) (F0 m 22 ls []) := by
    intro n9
    induction n9 with
    | zero => intro v26 b27 H locs ls hL23; exact (loopM_z hL23).elim
    | succ n9 ih9 =>
      intro v26 b27 H locs ls hL23 hB hl
      obtain ⟨o29, hg24, hL23⟩ := loopM_s hL23
      have hg24 : mL_flush_L22 fu τs n pa β7 υ8 ω sid v26 b27 = some o29 := hg24
      unfold mL_flush_L22 at hg24
      refine lv_iload_n hx hb dL_flush_22 rfl (lv_at hl 0 rfl) ?_
      refine lv_bipush (v := (6 : Int32)) hx hb dL_flush_23 (by decide) ?_
      refine lv_icmp_ge (tgt := 38) hx hb dL_flush_25 (by decide) (fun c31 => ?_) (fun c31 => ?_)
      · have hg24 := ite_t c31 hg24
        have hL23 := el1_l (inj1 hg24) hL23
        have e0 := inj1 hL23
        subst e0
        exact kE21 _ _ _ hB (lv_sub hl [] rfl)
      · have hg24 := ite_f c31 hg24
        refine lv_aload_n hx hb dL_flush_28 rfl (lv_at hl 1 rfl) ?_
        refine lv_iload_n hx hb dL_flush_29 rfl (lv_at hl 0 rfl) ?_
        refine lv_iconst (v := (0 : Int32)) hx hb dL_flush_30 (by decide) ?_
        obtain ⟨b32, e9, hg24⟩ := ob1_s hg24
        obtain ⟨hi, e9⟩ := wr_s e9
        refine g_iast hx hb hK (hB.perm (wperm (L' := [[(bu, .inl (cyI, 8, .inl b27))], cU cyI cyB cyO ua ub up aw as' pa β7 υ8 ω sid τs n]) [1, 0] (by decide +kernel) rfl rfl)) 0 0 rfl rfl hi e9 dL_flush_31 (w2 := (wF [[(bu, .inl (cyI, 8, .inl b32))], cU cyI cyB cyO ua ub up aw as' pa β7 υ8 ω sid τs n])) rfl (fun H locs hB => ?_)
        have hB := hB.perm (wperm (L' := [cU cyI cyB cyO ua ub up aw as' pa β7 υ8 ω sid τs n, [(bu, .inl (cyI, 8, .inl b32))]]) [1, 0] (by decide +kernel) rfl rfl)
        refine lv_iinc (v := (v26 + (1 : Int32))) (lv' := [(2, .int (v26 + (1 : Int32))), (1, .ref bu)]) hx hb dL_flush_32 hl (k := 0) rfl rfl (by decide) rfl (fun ls hl => ?_)
        refine lv_goto (tgt := 22) hx hb dL_flush_35 (by decide) ?_
        have hL23 := el1_r (inj1 hg24) hL23
        exact ih9 _ _ _ _ _ hL23 hB (lv_sub hl [0, 1] rfl)
  exact key22 fu _ _ _ _ _ hL23 hB (lv_sub hl [0, 2] rfl)

abbrev rmL_put : Room := { frames := 3, cells := 0, slots := 0, locals := 69 }

set_option maxHeartbeats 8000000 in
set_option maxRecDepth 100000 in
theorem kL_put (l : Launch) (hl0 : l.stackTraces = false) (dC : Nat → ClassId) (dI : Nat → Nat → Nat) (cyI cyB cyO cyA cyT cyW cyZ : ClassId) (ua ub up : Nat) (aw as' : Nat → Nat → Nat) (kS : Nat → Nat) (bu : Nat) (sz : Nat) {fu : Nat} {τs : WS} {n : Nat} {pa : PA} {β : FS} {υ : MS} {ω : WS} {sid : PA} {b : FS} {i3 : Int32} {β_ : FS} {υ_ : MS} {b_ : FS} (hf : mL_put fu τs n pa β υ ω sid b i3 = some (β_, υ_, b_)) : Met l yL_put wqL_put rmL_put (PcE (dC, dI) [(cyI, .int), (cyB, .byte), (cyO, .object "UndoJourneys$World"), (cyA, .array .int), (cyT, .object "UndoJourneysLaw$Trip"), (cyW, .object "UndoJourneysLaw$World"), (cyZ, .boolean)] kS (wF [cU cyI cyB cyO ua ub up aw as' pa β υ ω sid τs n, [(bu, .inl (cyI, 8, .inl b))]]) sz [.ref ua, .ref bu, .int i3]) (QvF (dC, dI) [(cyI, .int), (cyB, .byte), (cyO, .object "UndoJourneys$World"), (cyA, .array .int), (cyT, .object "UndoJourneysLaw$Trip"), (cyW, .object "UndoJourneysLaw$World"), (cyZ, .boolean)] (wF [cU cyI cyB cyO ua ub up aw as' pa β υ ω sid τs n, [(bu, .inl (cyI, 8, .inl b))]]) (wF [cU cyI cyB cyO ua ub up aw as' pa β_ υ_ ω sid τs n, [(bu, .inl (cyI, 8, .inl b_))]]) sz) 0 0 (va_A (wF [cU cyI cyB cyO ua ub up aw as' pa β υ ω sid τs n, [(bu, .inl (cyI, 8, .inl b))]]) sz) := by
  refine Met.ofW (cc := cL_put) (maxL := 3) (ret := none) (by decide) rfl ?_
  intro p e s m args below meth c s₁ B hml hv
  obtain ⟨rfl, ⟨hsz, hP, hK, hD0⟩, hEV⟩ := hv
  obtain ⟨hEX, hNC, hJ, hNw, hNw3, hAOw, hN6, hN5, hAOT, hAOW, hAOA, hCl⟩ := id hEV
  have hx := B.exec
  have hb := B.bytes
  have hr := B.returns
  have hts := atoms_spec (ws := wqL_put) B.pre
  have hgb : ∀ w ∈ gw_tbl, w ∈ wqL_put := fun w h => List.mem_cons_of_mem _ h
  have hown : s.vm.findClass RL = some m.cls := findClass_of_methodNamed B.named
  have hlocks := B.notSynchronized
  subst hsz
  have hA : ∀ q : Nat, s.heap.size ≤ q → va_A (wF [cU cyI cyB cyO ua ub up aw as' pa β υ ω sid τs n, [(bu, .inl (cyI, 8, .inl b))]]) s.heap.size q := fun q h => Or.inr h
  have hB : Bd (dC, dI) [(cyI, .int), (cyB, .byte), (cyO, .object "UndoJourneys$World"), (cyA, .array .int), (cyT, .object "UndoJourneysLaw$Trip"), (cyW, .object "UndoJourneysLaw$World"), (cyZ, .boolean)] (va_A (wF [cU cyI cyB cyO ua ub up aw as' pa β υ ω sid τs n, [(bu, .inl (cyI, 8, .inl b))]]) s.heap.size) s (wF [cU cyI cyB cyO ua ub up aw as' pa β υ ω sid τs n, [(bu, .inl (cyI, 8, .inl b))]]) s.heap [] := ⟨hP, hD0.self, va_S.rf⟩
  have hl := lv_entry [.ref ua, .ref bu, .int i3] (n := 3) (Nat.le_of_ble_eq_true rfl)
  rw [lg_entry_eq]
  generalize (lg_sl [.ref ua, .ref bu, .int i3] ++ List.replicate (3 - (lg_sl [.ref ua, .ref bu, .int i3]).length) Slot.unset).toArray = ls at hl ⊢
  have hl : lv_has ls 3 [(0, .ref ua), (1, .ref bu), (2, .int i3)] := hl
  clear hP hD0
  suffices main : ∀ (H : Heap) (locs : List Loc), Bd (dC, dI) [(cyI, .int), (cyB, .byte), (cyO, .object "UndoJourneys$World"), (cyA, .array .int), (cyT, .object "UndoJourneysLaw$Trip"), (cyW, .object "UndoJourneysLaw$World"), (cyZ, .boolean)] (va_A (wF [cU cyI cyB cyO ua ub up aw as' pa β υ ω sid τs n, [(bu, .inl (cyI, 8, .inl b))]]) s.heap.size) s (wF [cU cyI cyB cyO ua ub up aw as' pa β υ ω sid τs n, [(bu, .inl (cyI, 8, .inl b))]]) H locs → W p l e (headSpec wqL_put rmL_put).room s m ([.ref ua, .ref bu, .int i3] : List Value).toArray below meth c H locs 0 0 (MQ below (QvF (dC, dI) [(cyI, .int), (cyB, .byte), (cyO, .object "UndoJourneys$World"), (cyA, .array .int), (cyT, .object "UndoJourneysLaw$Trip"), (cyW, .object "UndoJourneysLaw$World"), (cyZ, .boolean)] (wF [cU cyI cyB cyO ua ub up aw as' pa β υ ω sid τs n, [(bu, .inl (cyI, 8, .inl b))]]) (wF [cU cyI cyB cyO ua ub up aw as' pa β_ υ_ ω sid τs n, [(bu, .inl (cyI, 8, .inl b_))]]) s.heap.size) ([.ref ua, .ref bu, .int i3] : List Value).toArray s 0 0 (va_A (wF [cU cyI cyB cyO ua ub up aw as' pa β υ ω sid τs n, [(bu, .inl (cyI, 8, .inl b))]]) s.heap.size)) (F0 m 0 ls []) from main _ _ hB
  clear hB
  intro H locs hB
  unfold mL_put at hf
  refine lv_aload_n hx hb dL_put_0 rfl (lv_at hl 1 rfl) ?_
  refine lv_iconst (v := (1 : Int32)) hx hb dL_put_1 (by decide) ?_
  refine lv_aload_n hx hb dL_put_2 rfl (lv_at hl 1 rfl) ?_
  refine lv_iconst (v := (0 : Int32)) hx hb dL_put_3 (by decide) ?_
  obtain ⟨x1, e9, hf⟩ := ob1_s hf
  refine g_iald hx hb hK (hB.perm (wperm (L' := [[(bu, .inl (cyI, 8, .inl b))], cU cyI cyB cyO ua ub up aw as' pa β υ ω sid τs n]) [1, 0] (by decide +kernel) rfl rfl)) 0 0 rfl rfl (rd_s e9) dL_put_4 ?_
  refine lv_bipush (v := (20 : Int32)) hx hb dL_put_5 (by decide) ?_
  refine lv_irem hx hb dL_put_7 (by decide) ?_
  refine lv_iconst (v := (4 : Int32)) hx hb dL_put_8 (by decide) ?_
  refine lv_idiv hx hb dL_put_9 (by decide) ?_
  refine lv_iadd hx hb dL_put_10 ?_
  refine lv_dup2_11 hx hb dL_put_11 rfl rfl ?_
  obtain ⟨x2, e9, hf⟩ := ob1_s hf
  refine g_iald hx hb hK (hB.perm (wperm (L' := [[(bu, .inl (cyI, 8, .inl b))], cU cyI cyB cyO ua ub up aw as' pa β υ ω sid τs n]) [1, 0] (by decide +kernel) rfl rfl)) 0 0 rfl rfl (rd_s e9) dL_put_12 ?_
  refine lv_iload_n hx hb dL_put_13 rfl (lv_at hl 2 rfl) ?_
  refine lv_bipush (v := (24 : Int32)) hx hb dL_put_14 (by decide) ?_
  refine lv_bipush (v := (8 : Int32)) hx hb dL_put_16 (by decide) ?_
  refine lv_aload_n hx hb dL_put_18 rfl (lv_at hl 1 rfl) ?_
  refine lv_iconst (v := (0 : Int32)) hx hb dL_put_19 (by decide) ?_
  obtain ⟨x3, e9, hf⟩ := ob1_s hf
  refine g_iald hx hb hK (hB.perm (wperm (L' := [[(bu, .inl (cyI, 8, .inl b))], cU cyI cyB cyO ua ub up aw as' pa β υ ω sid τs n]) [1, 0] (by decide +kernel) rfl rfl)) 0 0 rfl rfl (rd_s e9) dL_put_20 ?_
  refine lv_iconst (v := (4 : Int32)) hx hb dL_put_21 (by decide) ?_
  refine lv_irem hx hb dL_put_22 (by decide) ?_
  refine lv_imul hx hb dL_put_23 ?_
  refine lv_isub hx hb dL_put_24 ?_
  refine lv_ishl hx hb dL_put_25 ?_
  refine lv_ior hx hb dL_put_26 ?_
  obtain ⟨b4, e9, hf⟩ := ob1_s hf
  obtain ⟨hi, e9⟩ := wr_s e9
  refine g_iast hx hb hK (hB.perm (wperm (L' := [[(bu, .inl (cyI, 8, .inl b))], cU cyI cyB cyO ua ub up aw as' pa β υ ω sid τs n]) [1, 0] (by decide +kernel) rfl rfl)) 0 0 rfl rfl hi e9 dL_put_27 (w2 := (wF [[(bu, .inl (cyI, 8, .inl b4))], cU cyI cyB cyO ua ub up aw as' pa β υ ω sid τs n])) rfl (fun H locs hB => ?_)
  have hB := hB.perm (wperm (L' := [cU cyI cyB cyO ua ub up aw as' pa β υ ω sid τs n, [(bu, .inl (cyI, 8, .inl b4))]]) [1, 0] (by decide +kernel) rfl rfl)
  refine lv_aload_n hx hb dL_put_28 rfl (lv_at hl 1 rfl) ?_
  refine lv_iconst (v := (0 : Int32)) hx hb dL_put_29 (by decide) ?_
  refine lv_dup2_11 hx hb dL_put_30 rfl rfl ?_
  obtain ⟨x5, e9, hf⟩ := ob1_s hf
  refine g_iald hx hb hK (hB.perm (wperm (L' := [[(bu, .inl (cyI, 8, .inl b4))], cU cyI cyB cyO ua ub up aw as' pa β υ ω sid τs n]) [1, 0] (by decide +kernel) rfl rfl)) 0 0 rfl rfl (rd_s e9) dL_put_31 ?_
  refine lv_iconst (v := (1 : Int32)) hx hb dL_put_32 (by decide) ?_
  refine lv_iadd hx hb dL_put_33 ?_
  obtain ⟨b6, e9, hf⟩ := ob1_s hf
  obtain ⟨hi, e9⟩ := wr_s e9
  refine g_iast hx hb hK (hB.perm (wperm (L' := [[(bu, .inl (cyI, 8, .inl b4))], cU cyI cyB cyO ua ub up aw as' pa β υ ω sid τs n]) [1, 0] (by decide +kernel) rfl rfl)) 0 0 rfl rfl hi e9 dL_put_34 (w2 := (wF [[(bu, .inl (cyI, 8, .inl b6))], cU cyI cyB cyO ua ub up aw as' pa β υ ω sid τs n])) rfl (fun H locs hB => ?_)
  have hB := hB.perm (wperm (L' := [cU cyI cyB cyO ua ub up aw as' pa β υ ω sid τs n, [(bu, .inl (cyI, 8, .inl b6))]]) [1, 0] (by decide +kernel) rfl rfl)
  refine lv_aload_n hx hb dL_put_35 rfl (lv_at hl 1 rfl) ?_
  refine lv_iconst (v := (0 : Int32)) hx hb dL_put_36 (by decide) ?_
  obtain ⟨x7, e9, hf⟩ := ob1_s hf
  refine g_iald hx hb hK (hB.perm (wperm (L' := [[(bu, .inl (cyI, 8, .inl b6))], cU cyI cyB cyO ua ub up aw as' pa β υ ω sid τs n]) [1, 0] (by decide +kernel) rfl rfl)) 0 0 rfl rfl (rd_s e9) dL_put_37 ?_
  refine lv_bipush (v := (20 : Int32)) hx hb dL_put_38 (by decide) ?_
  refine lv_irem hx hb dL_put_40 (by decide) ?_
  obtain ⟨β8, υ9, b10, hJ11, hf⟩ := ob3_s hf
  have kJ12 : ∀ (H : Heap) (locs : List Loc) (ls : Array Slot), Bd (dC, dI) [(cyI, .int), (cyB, .byte), (cyO, .object "UndoJourneys$World"), (cyA, .array .int), (cyT, .object "UndoJourneysLaw$Trip"), (cyW, .object "UndoJourneysLaw$World"), (cyZ, .boolean)] (va_A (wF [cU cyI cyB cyO ua ub up aw as' pa β υ ω sid τs n, [(bu, .inl (cyI, 8, .inl b))]]) s.heap.size) s (wF [cU cyI cyB cyO ua ub up aw as' pa β8 υ9 ω sid τs n, [(bu, .inl (cyI, 8, .inl b10))]]) H locs → lv_has ls 3 [] → W p l e (headSpec wqL_put rmL_put).room s m ([.ref ua, .ref bu, .int i3] : List Value).toArray below meth c H locs 0 0 (MQ below (QvF (dC, dI) [(cyI, .int), (cyB, .byte), (cyO, .object "UndoJourneys$World"), (cyA, .array .int), (cyT, .object "UndoJourneysLaw$Trip"), (cyW, .object "UndoJourneysLaw$World"), (cyZ, .boolean)] (wF [cU cyI cyB cyO ua ub up aw as' pa β υ ω sid τs n, [(bu, .inl (cyI, 8, .inl b))]]) (wF [cU cyI cyB cyO ua ub up aw as' pa β_ υ_ ω sid τs n, [(bu, .inl (cyI, 8, .inl b_))]]) s.heap.size) ([.ref ua, .ref bu, .int i3] : List Value).toArray s 0 0 (va_A (wF [cU cyI cyB cyO ua ub up aw as' pa β υ ω sid τs n, [(bu, .inl (cyI, 8, .inl b))]]) s.heap.size)) (F0 m 49 ls []) := by
    intro H locs ls hB hl
    obtain ⟨e0, e1, e2⟩ := inj3 hf
    subst e0
    subst e1
    subst e2
    exact g_lvret (v := 0) (r := 0) hx hb hr hlocks hK hB (Nat.le_of_ble_eq_true rfl) (Nat.le_of_ble_eq_true rfl) dL_put_49
  refine lv_if_ne (tgt := 49) hx hb dL_put_41 (by decide) (fun c13 => ?_) (fun c13 => ?_)
  · have hJ11 := ite_f c13 hJ11
    obtain ⟨e0, e1, e2⟩ := inj3 hJ11
    subst e0
    subst e1
    subst e2
    exact kJ12 _ _ _ hB (lv_sub hl [] rfl)
  · have hJ11 := ite_t c13 hJ11
    refine lv_aload_n hx hb dL_put_44 rfl (lv_at hl 0 rfl) ?_
    refine lv_aload_n hx hb dL_put_45 rfl (lv_at hl 1 rfl) ?_
    obtain ⟨β14, υ15, b16, hc, hJ11⟩ := ob3_s hJ11
    refine e_Sv (S := Unit) (As := [.ref ua, .ref bu]) (rest := []) (wc := (wF [cU cyI cyB cyO ua ub up aw as' pa β υ ω sid τs n, [(bu, .inl (cyI, 8, .inl b6))]])) (wr := (wF [])) (w1 := fun _ => (wF [cU cyI cyB cyO ua ub up aw as' pa β14 υ15 ω sid τs n, [(bu, .inl (cyI, 8, .inl b16))]])) ⟨hx, hb, hml, hown, hts⟩ (kL_flush l hl0 dC dI cyI cyB cyO cyA cyT cyW cyZ ua ub up aw as' kS bu H.size hc) (va_cwS 2 hts (gv_L_flush_7 hgb) rfl rfl rfl (by decide +kernel) ⟨(Nat.le_of_ble_eq_true rfl), (Nat.le_of_ble_eq_true rfl)⟩) (epre_left hEV (hB.perm ((wperm (L' := [cU cyI cyB cyO ua ub up aw as' pa β υ ω sid τs n, [(bu, .inl (cyI, 8, .inl b6))]]) [0, 1] (by decide +kernel) rfl rfl).trans (wF_cut (a := [cU cyI cyB cyO ua ub up aw as' pa β υ ω sid τs n, [(bu, .inl (cyI, 8, .inl b6))]]) (b := [])))) hA hK [.ref ua, .ref bu]) hB hA ((wperm (L' := [cU cyI cyB cyO ua ub up aw as' pa β υ ω sid τs n, [(bu, .inl (cyI, 8, .inl b6))]]) [0, 1] (by decide +kernel) rfl rfl).trans (wF_cut (a := [cU cyI cyB cyO ua ub up aw as' pa β υ ω sid τs n, [(bu, .inl (cyI, 8, .inl b6))]]) (b := []))) rfl hl.1 rfl (Nat.le_of_ble_eq_true rfl) dL_put_46 ⟨(Nat.le_of_ble_eq_true rfl), (Nat.le_of_ble_eq_true rfl)⟩ (fun _ H locs hr9 hB => ?_)
    have hB := hB.perm wF_uncut
    have hB := hB.perm (wperm (L' := [cU cyI cyB cyO ua ub up aw as' pa β14 υ15 ω sid τs n, [(bu, .inl (cyI, 8, .inl b16))]]) [0, 1] (by decide +kernel) rfl rfl)
    obtain ⟨e0, e1, e2⟩ := inj3 hJ11
    subst e0
    subst e1
    subst e2
    exact kJ12 _ _ _ hB (lv_sub hl [] rfl)

abbrev rmL_write : Room := { frames := 4, cells := 0, slots := 0, locals := 91 }

set_option maxHeartbeats 8000000 in
set_option maxRecDepth 100000 in
theorem kL_write (l : Launch) (hl0 : l.stackTraces = false) (dC : Nat → ClassId) (dI : Nat → Nat → Nat) (cyI cyB cyO cyA cyT cyW cyZ : ClassId) (ua ub up : Nat) (aw as' : Nat → Nat → Nat) (kS : Nat → Nat) (bu : Nat) (sz : Nat) {fu : Nat} {τs : WS} {n : Nat} {pa : PA} {β : FS} {υ : MS} {ω : WS} {sid : PA} {b : FS} {w3 : Nat} {β_ : FS} {υ_ : MS} {b_ : FS} (hw3 : w3 < 23) (hf : mL_write fu τs n pa β υ ω sid b w3 = some (β_, υ_, b_)) : Met l yL_write wqL_write rmL_write (PcE (dC, dI) [(cyI, .int), (cyB, .byte), (cyO, .object "UndoJourneys$World"), (cyA, .array .int), (cyT, .object "UndoJourneysLaw$Trip"), (cyW, .object "UndoJourneysLaw$World"), (cyZ, .boolean)] kS (wF [cU cyI cyB cyO ua ub up aw as' pa β υ ω sid τs n, [(bu, .inl (cyI, 8, .inl b))]]) sz [.ref ua, .ref bu, .ref (kS w3)]) (QvF (dC, dI) [(cyI, .int), (cyB, .byte), (cyO, .object "UndoJourneys$World"), (cyA, .array .int), (cyT, .object "UndoJourneysLaw$Trip"), (cyW, .object "UndoJourneysLaw$World"), (cyZ, .boolean)] (wF [cU cyI cyB cyO ua ub up aw as' pa β υ ω sid τs n, [(bu, .inl (cyI, 8, .inl b))]]) (wF [cU cyI cyB cyO ua ub up aw as' pa β_ υ_ ω sid τs n, [(bu, .inl (cyI, 8, .inl b_))]]) sz) 0 0 (va_A (wF [cU cyI cyB cyO ua ub up aw as' pa β υ ω sid τs n, [(bu, .inl (cyI, 8, .inl b))]]) sz) := by
  refine Met.ofW (cc := cL_write) (maxL := 4) (ret := none) (by decide) rfl ?_
  intro p e s m args below meth c s₁ B hml hv
  obtain ⟨rfl, ⟨hsz, hP, hK, hD0⟩, hEV⟩ := hv
  obtain ⟨hEX, hNC, hJ, hNw, hNw3, hAOw, hN6, hN5, hAOT, hAOW, hAOA, hCl⟩ := id hEV
  have hx := B.exec
  have hb := B.bytes
  have hr := B.returns
  have hts := atoms_spec (ws := wqL_write) B.pre
  have hgb : ∀ w ∈ gw_tbl, w ∈ wqL_write := fun w h => List.mem_cons_of_mem _ h
  have hown : s.vm.findClass RL = some m.cls := findClass_of_methodNamed B.named
  have hlocks := B.notSynchronized
  subst hsz
  have hA : ∀ q : Nat, s.heap.size ≤ q → va_A (wF [cU cyI cyB cyO ua ub up aw as' pa β υ ω sid τs n, [(bu, .inl (cyI, 8, .inl b))]]) s.heap.size q := fun q h => Or.inr h
  have hB : Bd (dC, dI) [(cyI, .int), (cyB, .byte), (cyO, .object "UndoJourneys$World"), (cyA, .array .int), (cyT, .object "UndoJourneysLaw$Trip"), (cyW, .object "UndoJourneysLaw$World"), (cyZ, .boolean)] (va_A (wF [cU cyI cyB cyO ua ub up aw as' pa β υ ω sid τs n, [(bu, .inl (cyI, 8, .inl b))]]) s.heap.size) s (wF [cU cyI cyB cyO ua ub up aw as' pa β υ ω sid τs n, [(bu, .inl (cyI, 8, .inl b))]]) s.heap [] := ⟨hP, hD0.self, va_S.rf⟩
  have hl := lv_entry [.ref ua, .ref bu, .ref (kS w3)] (n := 4) (Nat.le_of_ble_eq_true rfl)
  rw [lg_entry_eq]
  generalize (lg_sl [.ref ua, .ref bu, .ref (kS w3)] ++ List.replicate (4 - (lg_sl [.ref ua, .ref bu, .ref (kS w3)]).length) Slot.unset).toArray = ls at hl ⊢
  have hl : lv_has ls 4 [(0, .ref ua), (1, .ref bu), (2, .ref (kS w3))] := hl
  clear hP hD0
  suffices main : ∀ (H : Heap) (locs : List Loc), Bd (dC, dI) [(cyI, .int), (cyB, .byte), (cyO, .object "UndoJourneys$World"), (cyA, .array .int), (cyT, .object "UndoJourneysLaw$Trip"), (cyW, .object "UndoJourneysLaw$World"), (cyZ, .boolean)] (va_A (wF [cU cyI cyB cyO ua ub up aw as' pa β υ ω sid τs n, [(bu, .inl (cyI, 8, .inl b))]]) s.heap.size) s (wF [cU cyI cyB cyO ua ub up aw as' pa β υ ω sid τs n, [(bu, .inl (cyI, 8, .inl b))]]) H locs → W p l e (headSpec wqL_write rmL_write).room s m ([.ref ua, .ref bu, .ref (kS w3)] : List Value).toArray below meth c H locs 0 0 (MQ below (QvF (dC, dI) [(cyI, .int), (cyB, .byte), (cyO, .object "UndoJourneys$World"), (cyA, .array .int), (cyT, .object "UndoJourneysLaw$Trip"), (cyW, .object "UndoJourneysLaw$World"), (cyZ, .boolean)] (wF [cU cyI cyB cyO ua ub up aw as' pa β υ ω sid τs n, [(bu, .inl (cyI, 8, .inl b))]]) (wF [cU cyI cyB cyO ua ub up aw as' pa β_ υ_ ω sid τs n, [(bu, .inl (cyI, 8, .inl b_))]]) s.heap.size) ([.ref ua, .ref bu, .ref (kS w3)] : List Value).toArray s 0 0 (va_A (wF [cU cyI cyB cyO ua ub up aw as' pa β υ ω sid τs n, [(bu, .inl (cyI, 8, .inl b))]]) s.heap.size)) (F0 m 0 ls []) from main _ _ hB
  clear hB
  intro H locs hB
  unfold mL_write at hf
  refine lv_iconst (v := (0 : Int32)) hx hb dL_write_0 (by decide) ?_
  refine lv_istore_n (lv' := [(3, .int (0 : Int32)), (0, .ref ua), (1, .ref bu), (2, .ref (kS w3))]) hx hb dL_write_1 rfl hl (by decide) rfl (fun ls hl => ?_)
  obtain ⟨β16, υ17, b18, hL21, hf⟩ := ob3_s hf
  have kE19 : ∀  (H : Heap) (locs : List Loc) (ls : Array Slot), Bd (dC, dI) [(cyI, .int), (cyB, .byte), (cyO, .object "UndoJourneys$World"), (cyA, .array .int), (cyT, .object "UndoJourneysLaw$Trip"), (cyW, .object "UndoJourneysLaw$World"), (cyZ, .boolean)] (va_A (wF [cU cyI cyB cyO ua ub up aw as' pa β υ ω sid τs n, [(bu, .inl (cyI, 8, .inl b))]]) s.heap.size) s (wF [cU cyI cyB cyO ua ub up aw as' pa β16 υ17 ω sid τs n, [(bu, .inl (cyI, 8, .inl b18))]]) H locs → lv_has ls 4 [] → W p l e (headSpec wqL_write rmL_write).room s m ([.ref ua, .ref bu, .ref (kS w3)] : List Value).toArray below meth c H locs 0 0 (MQ below (QvF (dC, dI) [(cyI, .int), (cyB, .byte), (cyO, .object "UndoJourneys$World"), (cyA, .array .int), (cyT, .object "UndoJourneysLaw$Trip"), (cyW, .object "UndoJourneysLaw$World"), (cyZ, .boolean)] (wF [cU cyI cyB cyO ua ub up aw as' pa β υ ω sid τs n, [(bu, .inl (cyI, 8, .inl b))]]) (wF [cU cyI cyB cyO ua ub up aw as' pa β_ υ_ ω sid τs n, [(bu, .inl (cyI, 8, .inl b_))]]) s.heap.size) ([.ref ua, .ref bu, .ref (kS w3)] : List Value).toArray s 0 0 (va_A (wF [cU cyI cyB cyO ua ub up aw as' pa β υ ω sid τs n, [(bu, .inl (cyI, 8, .inl b))]]) s.heap.size)) (F0 m 26 ls []) := by
    intro H locs ls hB hl
    obtain ⟨e0, e1, e2⟩ := inj3 hf
    subst e0
    subst e1
    subst e2
    exact g_lvret (v := 0) (r := 0) hx hb hr hlocks hK hB (Nat.le_of_ble_eq_true rfl) (Nat.le_of_ble_eq_true rfl) dL_write_26
  have key20 : ∀ (n9 : Nat) (v24 : Int32) (β25 : FS) (υ26 : MS) (b27 : FS)  (H : Heap) (locs : List Loc) (ls : Array Slot), loopM (fun st => mL_write_L2 fu w3 τs n pa ω sid st.1 st.2.1 st.2.2.1 st.2.2.2) n9 (v24, β25, υ26, b27) = some (β16, υ17, b18) → Bd (dC, dI) [(cyI, .int), (cyB, .byte), (cyO, .object "UndoJourneys$World"), (cyA, .array .int), (cyT, .object "UndoJourneysLaw$Trip"), (cyW, .object "UndoJourneysLaw$World"), (cyZ, .boolean)] (va_A (wF [cU cyI cyB cyO ua ub up aw as' pa β υ ω sid τs n, [(bu, .inl (cyI, 8, .inl b))]]) s.heap.size) s (wF [cU cyI cyB cyO ua ub up aw as' pa β25 υ26 ω sid τs n, [(bu, .inl (cyI, 8, .inl b27))]]) H locs → lv_has ls 4 [(3, .int v24), (0, .ref ua), (1, .ref bu), (2, .ref (kS w3))] → W p l e (headSpec wqL_write rmL_write).room s m ([.ref ua, .ref bu, .ref (kS w3)] : List Value).toArray below meth c H locs 0 0 (MQ below (QvF (dC, dI) [(cyI, .int), (cyB, .byte), (cyO, .object "UndoJourneys$World"), (cyA, .array .int), (cyT, .object "UndoJourneysLaw$Trip"), (cyW, .object "UndoJourneysLaw$World"), (cyZ, .boolean)] (wF [cU cyI cyB cyO ua ub up aw as' pa β υ ω sid τs n, [(bu, .inl (cyI, 8, .inl b))]]) (wF [cU cyI cyB cyO ua ub up aw as' pa β_ υ_ ω sid τs n, [(bu, .inl (cyI, 8, .inl b_))]]) s.heap.size) ([.ref ua, .ref bu, .ref (kS w3)] : List Value).toArray s 0 0 (va_A (wF [cU cyI cyB cyO ua ub up aw as' pa β υ ω sid τs n, [(bu, .inl (cyI, 8, .inl b))]]) s.heap.size)) (F0 m 2 ls []) := by
    intro n9
    induction n9 with
    | zero => intro v24 β25 υ26 b27 H locs ls hL21; exact (loopM_z hL21).elim
    | succ n9 ih9 =>
      intro v24 β25 υ26 b27 H locs ls hL21 hB hl
      obtain ⟨o29, hg22, hL21⟩ := loopM_s hL21
      have hg22 : mL_write_L2 fu w3 τs n pa ω sid v24 β25 υ26 b27 = some o29 := hg22
      unfold mL_write_L2 at hg22
      refine lv_iload_n hx hb dL_write_2 rfl (lv_at hl 0 rfl) ?_
      refine lv_aload_n hx hb dL_write_3 rfl (lv_at hl 3 rfl) ?_
      refine g_jcutVi (As := []) (rest := [.int v24]) (w2 := (wF [cU cyI cyB cyO ua ub up aw as' pa β25 υ26 ω sid τs n, [(bu, .inl (cyI, 8, .inl b27))]])) ⟨hx, hb, hml, hown, hts⟩ hJ (kJ0_length_8abf5 l dC dI [(cyI, .int), (cyB, .byte), (cyO, .object "UndoJourneys$World"), (cyA, .array .int), (cyT, .object "UndoJourneysLaw$Trip"), (cyW, .object "UndoJourneysLaw$World"), (cyZ, .boolean)] H.size hw3) (cwV 0 hts (gv_J0_length_8abf5_23 hgb) rfl rfl rfl (by decide +kernel) ⟨(Nat.le_of_ble_eq_true rfl), (Nat.le_of_ble_eq_true rfl)⟩) hK hB hA (recvS hJ hB hw3) [] rfl rfl rfl (spl_nil _) rfl hl.1 rfl (Nat.le_of_ble_eq_true rfl) dL_write_4 ⟨(Nat.le_of_ble_eq_true rfl), (Nat.le_of_ble_eq_true rfl)⟩ (fun H locs hB => ?_)
      refine lv_icmp_ge (tgt := 26) hx hb dL_write_7 (by decide) (fun c31 => ?_) (fun c31 => ?_)
      · have hg22 := ite_t c31 hg22
        have hL21 := el1_l (inj1 hg22) hL21
        obtain ⟨e0, e1, e2⟩ := inj3 hL21
        subst e0
        subst e1
        subst e2
        exact kE19 _ _ _ hB (lv_sub hl [] rfl)
      · have hg22 := ite_f c31 hg22
        refine lv_aload_n hx hb dL_write_10 rfl (lv_at hl 1 rfl) ?_
        refine lv_aload_n hx hb dL_write_11 rfl (lv_at hl 2 rfl) ?_
        refine lv_aload_n hx hb dL_write_12 rfl (lv_at hl 3 rfl) ?_
        refine lv_iload_n hx hb dL_write_13 rfl (lv_at hl 0 rfl) ?_
        obtain ⟨x32, hc, hg22⟩ := ob1_s hg22
        refine g_jcutVi (As := [.int v24]) (rest := [.ref bu, .ref ua]) (w2 := (wF [cU cyI cyB cyO ua ub up aw as' pa β25 υ26 ω sid τs n, [(bu, .inl (cyI, 8, .inl b27))]])) ⟨hx, hb, hml, hown, hts⟩ hJ (kChr l dC dI [(cyI, .int), (cyB, .byte), (cyO, .object "UndoJourneys$World"), (cyA, .array .int), (cyT, .object "UndoJourneysLaw$Trip"), (cyW, .object "UndoJourneysLaw$World"), (cyZ, .boolean)] H.size hw3 hc) (cwV 1 hts (gv_J0_charAt_5068e_29 hgb) rfl rfl rfl (by decide +kernel) ⟨(Nat.le_of_ble_eq_true rfl), (Nat.le_of_ble_eq_true rfl)⟩) hK hB hA (recvS hJ hB hw3) [] rfl rfl rfl (spl_nil _) rfl hl.1 rfl (Nat.le_of_ble_eq_true rfl) dL_write_14 ⟨(Nat.le_of_ble_eq_true rfl), (Nat.le_of_ble_eq_true rfl)⟩ (fun H locs hB => ?_)
        obtain ⟨β33, υ34, b35, hc, hg22⟩ := ob3_s hg22
        refine e_Sv (S := Unit) (As := [.ref ua, .ref bu, .int x32]) (rest := []) (wc := (wF [cU cyI cyB cyO ua ub up aw as' pa β25 υ26 ω sid τs n, [(bu, .inl (cyI, 8, .inl b27))]])) (wr := (wF [])) (w1 := fun _ => (wF [cU cyI cyB cyO ua ub up aw as' pa β33 υ34 ω sid τs n, [(bu, .inl (cyI, 8, .inl b35))]])) ⟨hx, hb, hml, hown, hts⟩ (kL_put l hl0 dC dI cyI cyB cyO cyA cyT cyW cyZ ua ub up aw as' kS bu H.size hc) (va_cwS 3 hts (gv_L_put_33 hgb) rfl rfl rfl (by decide +kernel) ⟨(Nat.le_of_ble_eq_true rfl), (Nat.le_of_ble_eq_true rfl)⟩) (epre_left hEV (hB.perm ((wperm (L' := [cU cyI cyB cyO ua ub up aw as' pa β25 υ26 ω sid τs n, [(bu, .inl (cyI, 8, .inl b27))]]) [0, 1] (by decide +kernel) rfl rfl).trans (wF_cut (a := [cU cyI cyB cyO ua ub up aw as' pa β25 υ26 ω sid τs n, [(bu, .inl (cyI, 8, .inl b27))]]) (b := [])))) hA hK [.ref ua, .ref bu, .int x32]) hB hA ((wperm (L' := [cU cyI cyB cyO ua ub up aw as' pa β25 υ26 ω sid τs n, [(bu, .inl (cyI, 8, .inl b27))]]) [0, 1] (by decide +kernel) rfl rfl).trans (wF_cut (a := [cU cyI cyB cyO ua ub up aw as' pa β25 υ26 ω sid τs n, [(bu, .inl (cyI, 8, .inl b27))]]) (b := []))) rfl hl.1 rfl (Nat.le_of_ble_eq_true rfl) dL_write_17 ⟨(Nat.le_of_ble_eq_true rfl), (Nat.le_of_ble_eq_true rfl)⟩ (fun _ H locs hr9 hB => ?_)
        have hB := hB.perm wF_uncut
        have hB := hB.perm (wperm (L' := [cU cyI cyB cyO ua ub up aw as' pa β33 υ34 ω sid τs n, [(bu, .inl (cyI, 8, .inl b35))]]) [0, 1] (by decide +kernel) rfl rfl)
        refine lv_iinc (v := (v24 + (1 : Int32))) (lv' := [(3, .int (v24 + (1 : Int32))), (0, .ref ua), (1, .ref bu), (2, .ref (kS w3))]) hx hb dL_write_20 hl (k := 0) rfl rfl (by decide) rfl (fun ls hl => ?_)
        refine lv_goto (tgt := 2) hx hb dL_write_23 (by decide) ?_
        have hL21 := el1_r (inj1 hg22) hL21
        exact ih9 _ _ _ _ _ _ _ hL21 hB (lv_sub hl [0, 1, 2, 3] rfl)
  exact key20 fu _ _ _ _ _ _ _ hL21 hB (lv_sub hl [0, 1, 2, 3] rfl)

abbrev rmL_writeNumber : Room := { frames := 4, cells := 0, slots := 0, locals := 91 }

set_option maxHeartbeats 8000000 in
set_option maxRecDepth 100000 in
theorem kL_writeNumber (l : Launch) (hl0 : l.stackTraces = false) (dC : Nat → ClassId) (dI : Nat → Nat → Nat) (cyI cyB cyO cyA cyT cyW cyZ : ClassId) (ua ub up : Nat) (aw as' : Nat → Nat → Nat) (kS : Nat → Nat) (bu : Nat) (sz : Nat) {fu : Nat} {τs : WS} {n : Nat} {pa : PA} {β : FS} {υ : MS} {ω : WS} {sid : PA} {b : FS} {i3 : Int32} {β_ : FS} {υ_ : MS} {b_ : FS} (hf : mL_writeNumber fu τs n pa β υ ω sid b i3 = some (β_, υ_, b_)) : Met l yL_writeNumber wqL_writeNumber rmL_writeNumber (PcE (dC, dI) [(cyI, .int), (cyB, .byte), (cyO, .object "UndoJourneys$World"), (cyA, .array .int), (cyT, .object "UndoJourneysLaw$Trip"), (cyW, .object "UndoJourneysLaw$World"), (cyZ, .boolean)] kS (wF [cU cyI cyB cyO ua ub up aw as' pa β υ ω sid τs n, [(bu, .inl (cyI, 8, .inl b))]]) sz [.ref ua, .ref bu, .int i3]) (QvF (dC, dI) [(cyI, .int), (cyB, .byte), (cyO, .object "UndoJourneys$World"), (cyA, .array .int), (cyT, .object "UndoJourneysLaw$Trip"), (cyW, .object "UndoJourneysLaw$World"), (cyZ, .boolean)] (wF [cU cyI cyB cyO ua ub up aw as' pa β υ ω sid τs n, [(bu, .inl (cyI, 8, .inl b))]]) (wF [cU cyI cyB cyO ua ub up aw as' pa β_ υ_ ω sid τs n, [(bu, .inl (cyI, 8, .inl b_))]]) sz) 0 0 (va_A (wF [cU cyI cyB cyO ua ub up aw as' pa β υ ω sid τs n, [(bu, .inl (cyI, 8, .inl b))]]) sz) := by
  refine Met.ofW (cc := cL_writeNumber) (maxL := 4) (ret := none) (by decide) rfl ?_
  intro p e s m args below meth c s₁ B hml hv
  obtain ⟨rfl, ⟨hsz, hP, hK, hD0⟩, hEV⟩ := hv
  obtain ⟨hEX, hNC, hJ, hNw, hNw3, hAOw, hN6, hN5, hAOT, hAOW, hAOA, hCl⟩ := id hEV
  have hx := B.exec
  have hb := B.bytes
  have hr := B.returns
  have hts := atoms_spec (ws := wqL_writeNumber) B.pre
  have hgb : ∀ w ∈ gw_tbl, w ∈ wqL_writeNumber := fun w h => List.mem_cons_of_mem _ h
  have hown : s.vm.findClass RL = some m.cls := findClass_of_methodNamed B.named
  have hlocks := B.notSynchronized
  subst hsz
  have hA : ∀ q : Nat, s.heap.size ≤ q → va_A (wF [cU cyI cyB cyO ua ub up aw as' pa β υ ω sid τs n, [(bu, .inl (cyI, 8, .inl b))]]) s.heap.size q := fun q h => Or.inr h
  have hB : Bd (dC, dI) [(cyI, .int), (cyB, .byte), (cyO, .object "UndoJourneys$World"), (cyA, .array .int), (cyT, .object "UndoJourneysLaw$Trip"), (cyW, .object "UndoJourneysLaw$World"), (cyZ, .boolean)] (va_A (wF [cU cyI cyB cyO ua ub up aw as' pa β υ ω sid τs n, [(bu, .inl (cyI, 8, .inl b))]]) s.heap.size) s (wF [cU cyI cyB cyO ua ub up aw as' pa β υ ω sid τs n, [(bu, .inl (cyI, 8, .inl b))]]) s.heap [] := ⟨hP, hD0.self, va_S.rf⟩
  have hl := lv_entry [.ref ua, .ref bu, .int i3] (n := 4) (Nat.le_of_ble_eq_true rfl)
  rw [lg_entry_eq]
  generalize (lg_sl [.ref ua, .ref bu, .int i3] ++ List.replicate (4 - (lg_sl [.ref ua, .ref bu, .int i3]).length) Slot.unset).toArray = ls at hl ⊢
  have hl : lv_has ls 4 [(0, .ref ua), (1, .ref bu), (2, .int i3)] := hl
  clear hP hD0
  suffices main : ∀ (H : Heap) (locs : List Loc), Bd (dC, dI) [(cyI, .int), (cyB, .byte), (cyO, .object "UndoJourneys$World"), (cyA, .array .int), (cyT, .object "UndoJourneysLaw$Trip"), (cyW, .object "UndoJourneysLaw$World"), (cyZ, .boolean)] (va_A (wF [cU cyI cyB cyO ua ub up aw as' pa β υ ω sid τs n, [(bu, .inl (cyI, 8, .inl b))]]) s.heap.size) s (wF [cU cyI cyB cyO ua ub up aw as' pa β υ ω sid τs n, [(bu, .inl (cyI, 8, .inl b))]]) H locs → W p l e (headSpec wqL_writeNumber rmL_writeNumber).room s m ([.ref ua, .ref bu, .int i3] : List Value).toArray below meth c H locs 0 0 (MQ below (QvF (dC, dI) [(cyI, .int), (cyB, .byte), (cyO, .object "UndoJourneys$World"), (cyA, .array .int), (cyT, .object "UndoJourneysLaw$Trip"), (cyW, .object "UndoJourneysLaw$World"), (cyZ, .boolean)] (wF [cU cyI cyB cyO ua ub up aw as' pa β υ ω sid τs n, [(bu, .inl (cyI, 8, .inl b))]]) (wF [cU cyI cyB cyO ua ub up aw as' pa β_ υ_ ω sid τs n, [(bu, .inl (cyI, 8, .inl b_))]]) s.heap.size) ([.ref ua, .ref bu, .int i3] : List Value).toArray s 0 0 (va_A (wF [cU cyI cyB cyO ua ub up aw as' pa β υ ω sid τs n, [(bu, .inl (cyI, 8, .inl b))]]) s.heap.size)) (F0 m 0 ls []) from main _ _ hB
  clear hB
  intro H locs hB
  unfold mL_writeNumber at hf
  refine lv_iconst (v := (1 : Int32)) hx hb dL_writeNumber_0 (by decide) ?_
  refine lv_istore_n (lv' := [(3, .int (1 : Int32)), (0, .ref ua), (1, .ref bu), (2, .int i3)]) hx hb dL_writeNumber_1 rfl hl (by decide) rfl (fun ls hl => ?_)
  obtain ⟨v12, hL15, hf⟩ := ob1_s hf
  have kE13 : ∀  (H : Heap) (locs : List Loc) (ls : Array Slot), Bd (dC, dI) [(cyI, .int), (cyB, .byte), (cyO, .object "UndoJourneys$World"), (cyA, .array .int), (cyT, .object "UndoJourneysLaw$Trip"), (cyW, .object "UndoJourneysLaw$World"), (cyZ, .boolean)] (va_A (wF [cU cyI cyB cyO ua ub up aw as' pa β υ ω sid τs n, [(bu, .inl (cyI, 8, .inl b))]]) s.heap.size) s (wF [cU cyI cyB cyO ua ub up aw as' pa β υ ω sid τs n, [(bu, .inl (cyI, 8, .inl b))]]) H locs → lv_has ls 4 [(3, .int v12), (0, .ref ua), (1, .ref bu), (2, .int i3)] → W p l e (headSpec wqL_writeNumber rmL_writeNumber).room s m ([.ref ua, .ref bu, .int i3] : List Value).toArray below meth c H locs 0 0 (MQ below (QvF (dC, dI) [(cyI, .int), (cyB, .byte), (cyO, .object "UndoJourneys$World"), (cyA, .array .int), (cyT, .object "UndoJourneysLaw$Trip"), (cyW, .object "UndoJourneysLaw$World"), (cyZ, .boolean)] (wF [cU cyI cyB cyO ua ub up aw as' pa β υ ω sid τs n, [(bu, .inl (cyI, 8, .inl b))]]) (wF [cU cyI cyB cyO ua ub up aw as' pa β_ υ_ ω sid τs n, [(bu, .inl (cyI, 8, .inl b_))]]) s.heap.size) ([.ref ua, .ref bu, .int i3] : List Value).toArray s 0 0 (va_A (wF [cU cyI cyB cyO ua ub up aw as' pa β υ ω sid τs n, [(bu, .inl (cyI, 8, .inl b))]]) s.heap.size)) (F0 m 18 ls []) := by
    intro H locs ls hB hl
    obtain ⟨β32, υ33, b34, hL37, hf⟩ := ob3_s hf
    have kE35 : ∀  (H : Heap) (locs : List Loc) (ls : Array Slot), Bd (dC, dI) [(cyI, .int), (cyB, .byte), (cyO, .object "UndoJourneys$World"), (cyA, .array .int), (cyT, .object "UndoJourneysLaw$Trip"), (cyW, .object "UndoJourneysLaw$World"), (cyZ, .boolean)] (va_A (wF [cU cyI cyB cyO ua ub up aw as' pa β υ ω sid τs n, [(bu, .inl (cyI, 8, .inl b))]]) s.heap.size) s (wF [cU cyI cyB cyO ua ub up aw as' pa β32 υ33 ω sid τs n, [(bu, .inl (cyI, 8, .inl b34))]]) H locs → lv_has ls 4 [] → W p l e (headSpec wqL_writeNumber rmL_writeNumber).room s m ([.ref ua, .ref bu, .int i3] : List Value).toArray below meth c H locs 0 0 (MQ below (QvF (dC, dI) [(cyI, .int), (cyB, .byte), (cyO, .object "UndoJourneys$World"), (cyA, .array .int), (cyT, .object "UndoJourneysLaw$Trip"), (cyW, .object "UndoJourneysLaw$World"), (cyZ, .boolean)] (wF [cU cyI cyB cyO ua ub up aw as' pa β υ ω sid τs n, [(bu, .inl (cyI, 8, .inl b))]]) (wF [cU cyI cyB cyO ua ub up aw as' pa β_ υ_ ω sid τs n, [(bu, .inl (cyI, 8, .inl b_))]]) s.heap.size) ([.ref ua, .ref bu, .int i3] : List Value).toArray s 0 0 (va_A (wF [cU cyI cyB cyO ua ub up aw as' pa β υ ω sid τs n, [(bu, .inl (cyI, 8, .inl b))]]) s.heap.size)) (F0 m 44 ls []) := by
      intro H locs ls hB hl
      obtain ⟨e0, e1, e2⟩ := inj3 hf
      subst e0
      subst e1
      subst e2
      exact g_lvret (v := 0) (r := 0) hx hb hr hlocks hK hB (Nat.le_of_ble_eq_true rfl) (Nat.le_of_ble_eq_true rfl) dL_writeNumber_44
    have key36 : ∀ (n9 : Nat) (v40 : Int32) (β41 : FS) (υ42 : MS) (b43 : FS)  (H : Heap) (locs : List Loc) (ls : Array Slot), loopM (fun st => mL_writeNumber_L18 fu i3 τs n pa ω sid st.1 st.2.1 st.2.2.1 st.2.2.2) n9 (v40, β41, υ42, b43) = some (β32, υ33, b34) → Bd (dC, dI) [(cyI, .int), (cyB, .byte), (cyO, .object "UndoJourneys$World"), (cyA, .array .int), (cyT, .object "UndoJourneysLaw$Trip"), (cyW, .object "UndoJourneysLaw$World"), (cyZ, .boolean)] (va_A (wF [cU cyI cyB cyO ua ub up aw as' pa β υ ω sid τs n, [(bu, .inl (cyI, 8, .inl b))]]) s.heap.size) s (wF [cU cyI cyB cyO ua ub up aw as' pa β41 υ42 ω sid τs n, [(bu, .inl (cyI, 8, .inl b43))]]) H locs → lv_has ls 4 [(3, .int v40), (0, .ref ua), (1, .ref bu), (2, .int i3)] → W p l e (headSpec wqL_writeNumber rmL_writeNumber).room s m ([.ref ua, .ref bu, .int i3] : List Value).toArray below meth c H locs 0 0 (MQ below (QvF (dC, dI) [(cyI, .int), (cyB, .byte), (cyO, .object "UndoJourneys$World"), (cyA, .array .int), (cyT, .object "UndoJourneysLaw$Trip"), (cyW, .object "UndoJourneysLaw$World"), (cyZ, .boolean)] (wF [cU cyI cyB cyO ua ub up aw as' pa β υ ω sid τs n, [(bu, .inl (cyI, 8, .inl b))]]) (wF [cU cyI cyB cyO ua ub up aw as' pa β_ υ_ ω sid τs n, [(bu, .inl (cyI, 8, .inl b_))]]) s.heap.size) ([.ref ua, .ref bu, .int i3] : List Value).toArray s 0 0 (va_A (wF [cU cyI cyB cyO ua ub up aw as' pa β υ ω sid τs n, [(bu, .inl (cyI, 8, .inl b))]]) s.heap.size)) (F0 m 18 ls []) := by
      intro n9
      induction n9 with
      | zero => intro v40 β41 υ42 b43 H locs ls hL37; exact (loopM_z hL37).elim
      | succ n9 ih9 =>
        intro v40 β41 υ42 b43 H locs ls hL37 hB hl
        obtain ⟨o45, hg38, hL37⟩ := loopM_s hL37
        have hg38 : mL_writeNumber_L18 fu i3 τs n pa ω sid v40 β41 υ42 b43 = some o45 := hg38
        unfold mL_writeNumber_L18 at hg38
        refine lv_iload_n hx hb dL_writeNumber_18 rfl (lv_at hl 0 rfl) ?_
        refine lv_if_le (tgt := 44) hx hb dL_writeNumber_19 (by decide) (fun c47 => ?_) (fun c47 => ?_)
        · have hg38 := ite_t c47 hg38
          have hL37 := el1_l (inj1 hg38) hL37
          obtain ⟨e0, e1, e2⟩ := inj3 hL37
          subst e0
          subst e1
          subst e2
          exact kE35 _ _ _ hB (lv_sub hl [] rfl)
        · have hg38 := ite_f c47 hg38
          refine lv_aload_n hx hb dL_writeNumber_22 rfl (lv_at hl 1 rfl) ?_
          refine lv_aload_n hx hb dL_writeNumber_23 rfl (lv_at hl 2 rfl) ?_
          refine lv_bipush (v := (48 : Int32)) hx hb dL_writeNumber_24 (by decide) ?_
          refine lv_iload_n hx hb dL_writeNumber_26 rfl (lv_at hl 3 rfl) ?_
          refine lv_iload_n hx hb dL_writeNumber_27 rfl (lv_at hl 0 rfl) ?_
          obtain ⟨_, g48, hg38⟩ := ob1_s hg38
          refine lv_idiv hx hb dL_writeNumber_28 (gNz_s g48) ?_
          refine lv_bipush (v := (10 : Int32)) hx hb dL_writeNumber_29 (by decide) ?_
          refine lv_irem hx hb dL_writeNumber_31 (by decide) ?_
          refine lv_iadd hx hb dL_writeNumber_32 ?_
          obtain ⟨β49, υ50, b51, hc, hg38⟩ := ob3_s hg38
          refine e_Sv (S := Unit) (As := [.ref ua, .ref bu, .int ((48 : Int32) + ((i3 / v40) - (i3 / v40) / (10 : Int32) * (10 : Int32)))]) (rest := []) (wc := (wF [cU cyI cyB cyO ua ub up aw as' pa β41 υ42 ω sid τs n, [(bu, .inl (cyI, 8, .inl b43))]])) (wr := (wF [])) (w1 := fun _ => (wF [cU cyI cyB cyO ua ub up aw as' pa β49 υ50 ω sid τs n, [(bu, .inl (cyI, 8, .inl b51))]])) ⟨hx, hb, hml, hown, hts⟩ (kL_put l hl0 dC dI cyI cyB cyO cyA cyT cyW cyZ ua ub up aw as' kS bu H.size hc) (va_cwS 3 hts (gv_L_put_33 hgb) rfl rfl rfl (by decide +kernel) ⟨(Nat.le_of_ble_eq_true rfl), (Nat.le_of_ble_eq_true rfl)⟩) (epre_left hEV (hB.perm ((wperm (L' := [cU cyI cyB cyO ua ub up aw as' pa β41 υ42 ω sid τs n, [(bu, .inl (cyI, 8, .inl b43))]]) [0, 1] (by decide +kernel) rfl rfl).trans (wF_cut (a := [cU cyI cyB cyO ua ub up aw as' pa β41 υ42 ω sid τs n, [(bu, .inl (cyI, 8, .inl b43))]]) (b := [])))) hA hK [.ref ua, .ref bu, .int ((48 : Int32) + ((i3 / v40) - (i3 / v40) / (10 : Int32) * (10 : Int32)))]) hB hA ((wperm (L' := [cU cyI cyB cyO ua ub up aw as' pa β41 υ42 ω sid τs n, [(bu, .inl (cyI, 8, .inl b43))]]) [0, 1] (by decide +kernel) rfl rfl).trans (wF_cut (a := [cU cyI cyB cyO ua ub up aw as' pa β41 υ42 ω sid τs n, [(bu, .inl (cyI, 8, .inl b43))]]) (b := []))) rfl hl.1 rfl (Nat.le_of_ble_eq_true rfl) dL_writeNumber_33 ⟨(Nat.le_of_ble_eq_true rfl), (Nat.le_of_ble_eq_true rfl)⟩ (fun _ H locs hr9 hB => ?_)
          have hB := hB.perm wF_uncut
          have hB := hB.perm (wperm (L' := [cU cyI cyB cyO ua ub up aw as' pa β49 υ50 ω sid τs n, [(bu, .inl (cyI, 8, .inl b51))]]) [0, 1] (by decide +kernel) rfl rfl)
          refine lv_iload_n hx hb dL_writeNumber_36 rfl (lv_at hl 0 rfl) ?_
          refine lv_bipush (v := (10 : Int32)) hx hb dL_writeNumber_37 (by decide) ?_
          refine lv_idiv hx hb dL_writeNumber_39 (by decide) ?_
          refine lv_istore_n (lv' := [(3, .int (v40 / (10 : Int32))), (0, .ref ua), (1, .ref bu), (2, .int i3)]) hx hb dL_writeNumber_40 rfl hl (by decide) rfl (fun ls hl => ?_)
          refine lv_goto (tgt := 18) hx hb dL_writeNumber_41 (by decide) ?_
          have hL37 := el1_r (inj1 hg38) hL37
          exact ih9 _ _ _ _ _ _ _ hL37 hB (lv_sub hl [0, 1, 2, 3] rfl)
    exact key36 fu _ _ _ _ _ _ _ hL37 hB (lv_sub hl [0, 1, 2, 3] rfl)
  have key14 : ∀ (n9 : Nat) (v53 : Int32)  (H : Heap) (locs : List Loc) (ls : Array Slot), loopM (fun st => mL_writeNumber_L2 fu i3 τs n pa β υ ω sid b st) n9 v53 = some v12 → Bd (dC, dI) [(cyI, .int), (cyB, .byte), (cyO, .object "UndoJourneys$World"), (cyA, .array .int), (cyT, .object "UndoJourneysLaw$Trip"), (cyW, .object "UndoJourneysLaw$World"), (cyZ, .boolean)] (va_A (wF [cU cyI cyB cyO ua ub up aw as' pa β υ ω sid τs n, [(bu, .inl (cyI, 8, .inl b))]]) s.heap.size) s (wF [cU cyI cyB cyO ua ub up aw as' pa β υ ω sid τs n, [(bu, .inl (cyI, 8, .inl b))]]) H locs → lv_has ls 4 [(3, .int v53), (0, .ref ua), (1, .ref bu), (2, .int i3)] → W p l e (headSpec wqL_writeNumber rmL_writeNumber).room s m ([.ref ua, .ref bu, .int i3] : List Value).toArray below meth c H locs 0 0 (MQ below (QvF (dC, dI) [(cyI, .int), (cyB, .byte), (cyO, .object "UndoJourneys$World"), (cyA, .array .int), (cyT, .object "UndoJourneysLaw$Trip"), (cyW, .object "UndoJourneysLaw$World"), (cyZ, .boolean)] (wF [cU cyI cyB cyO ua ub up aw as' pa β υ ω sid τs n, [(bu, .inl (cyI, 8, .inl b))]]) (wF [cU cyI cyB cyO ua ub up aw as' pa β_ υ_ ω sid τs n, [(bu, .inl (cyI, 8, .inl b_))]]) s.heap.size) ([.ref ua, .ref bu, .int i3] : List Value).toArray s 0 0 (va_A (wF [cU cyI cyB cyO ua ub up aw as' pa β υ ω sid τs n, [(bu, .inl (cyI, 8, .inl b))]]) s.heap.size)) (F0 m 2 ls []) := by
    intro n9
    induction n9 with
    | zero => intro v53 H locs ls hL15; exact (loopM_z hL15).elim
    | succ n9 ih9 =>
      intro v53 H locs ls hL15 hB hl
      obtain ⟨o55, hg16, hL15⟩ := loopM_s hL15
      have hg16 : mL_writeNumber_L2 fu i3 τs n pa β υ ω sid b v53 = some o55 := hg16
      unfold mL_writeNumber_L2 at hg16
      refine lv_iload_n hx hb dL_writeNumber_2 rfl (lv_at hl 0 rfl) ?_
      refine lv_iload_n hx hb dL_writeNumber_3 rfl (lv_at hl 3 rfl) ?_
      refine lv_bipush (v := (10 : Int32)) hx hb dL_writeNumber_4 (by decide) ?_
      refine lv_idiv hx hb dL_writeNumber_6 (by decide) ?_
      refine lv_icmp_gt (tgt := 18) hx hb dL_writeNumber_7 (by decide) (fun c57 => ?_) (fun c57 => ?_)
      · have hg16 := ite_t c57 hg16
        have hL15 := el1_l (inj1 hg16) hL15
        have e0 := inj1 hL15
        subst e0
        exact kE13 _ _ _ hB (lv_sub hl [0, 1, 2, 3] rfl)
      · have hg16 := ite_f c57 hg16
        refine lv_iload_n hx hb dL_writeNumber_10 rfl (lv_at hl 0 rfl) ?_
        refine lv_bipush (v := (10 : Int32)) hx hb dL_writeNumber_11 (by decide) ?_
        refine lv_imul hx hb dL_writeNumber_13 ?_
        refine lv_istore_n (lv' := [(3, .int (v53 * (10 : Int32))), (0, .ref ua), (1, .ref bu), (2, .int i3)]) hx hb dL_writeNumber_14 rfl hl (by decide) rfl (fun ls hl => ?_)
        refine lv_goto (tgt := 2) hx hb dL_writeNumber_15 (by decide) ?_
        have hL15 := el1_r (inj1 hg16) hL15
        exact ih9 _ _ _ _ hL15 hB (lv_sub hl [0, 1, 2, 3] rfl)
  exact key14 fu _ _ _ _ hL15 hB (lv_sub hl [0, 1, 2, 3] rfl)

abbrev rmL_writeAll : Room := { frames := 5, cells := 0, slots := 0, locals := 114 }

set_option maxHeartbeats 8000000 in
set_option maxRecDepth 100000 in
theorem kL_writeAll (l : Launch) (hl0 : l.stackTraces = false) (dC : Nat → ClassId) (dI : Nat → Nat → Nat) (cyI cyB cyO cyA cyT cyW cyZ : ClassId) (ua ub up : Nat) (aw as' : Nat → Nat → Nat) (kS : Nat → Nat) (bu : Nat) (sz : Nat) {fu : Nat} {τs : WS} {n : Nat} {pa : PA} {β : FS} {υ : MS} {ω : WS} {sid : PA} {b : FS} {w3 : Nat} {i4 : Int32} {β_ : FS} {υ_ : MS} {b_ : FS} (hw3 : w3 < 23) (hf : mL_writeAll fu τs n pa β υ ω sid b w3 i4 = some (β_, υ_, b_)) : Met l yL_writeAll wqL_writeAll rmL_writeAll (PcE (dC, dI) [(cyI, .int), (cyB, .byte), (cyO, .object "UndoJourneys$World"), (cyA, .array .int), (cyT, .object "UndoJourneysLaw$Trip"), (cyW, .object "UndoJourneysLaw$World"), (cyZ, .boolean)] kS (wF [cU cyI cyB cyO ua ub up aw as' pa β υ ω sid τs n, [(bu, .inl (cyI, 8, .inl b))]]) sz [.ref ua, .ref bu, .ref (kS w3), .int i4]) (QvF (dC, dI) [(cyI, .int), (cyB, .byte), (cyO, .object "UndoJourneys$World"), (cyA, .array .int), (cyT, .object "UndoJourneysLaw$Trip"), (cyW, .object "UndoJourneysLaw$World"), (cyZ, .boolean)] (wF [cU cyI cyB cyO ua ub up aw as' pa β υ ω sid τs n, [(bu, .inl (cyI, 8, .inl b))]]) (wF [cU cyI cyB cyO ua ub up aw as' pa β_ υ_ ω sid τs n, [(bu, .inl (cyI, 8, .inl b_))]]) sz) 0 0 (va_A (wF [cU cyI cyB cyO ua ub up aw as' pa β υ ω sid τs n, [(bu, .inl (cyI, 8, .inl b))]]) sz) := by
  refine Met.ofW (cc := cL_writeAll) (maxL := 4) (ret := none) (by decide) rfl ?_
  intro p e s m args below meth c s₁ B hml hv
  obtain ⟨rfl, ⟨hsz, hP, hK, hD0⟩, hEV⟩ := hv
  obtain ⟨hEX, hNC, hJ, hNw, hNw3, hAOw, hN6, hN5, hAOT, hAOW, hAOA, hCl⟩ := id hEV
  have hx := B.exec
  have hb := B.bytes
  have hr := B.returns
  have hts := atoms_spec (ws := wqL_writeAll) B.pre
  have hgb : ∀ w ∈ gw_tbl, w ∈ wqL_writeAll := fun w h => List.mem_cons_of_mem _ h
  have hown : s.vm.findClass RL = some m.cls := findClass_of_methodNamed B.named
  have hlocks := B.notSynchronized
  subst hsz
  have hA : ∀ q : Nat, s.heap.size ≤ q → va_A (wF [cU cyI cyB cyO ua ub up aw as' pa β υ ω sid τs n, [(bu, .inl (cyI, 8, .inl b))]]) s.heap.size q := fun q h => Or.inr h
  have hB : Bd (dC, dI) [(cyI, .int), (cyB, .byte), (cyO, .object "UndoJourneys$World"), (cyA, .array .int), (cyT, .object "UndoJourneysLaw$Trip"), (cyW, .object "UndoJourneysLaw$World"), (cyZ, .boolean)] (va_A (wF [cU cyI cyB cyO ua ub up aw as' pa β υ ω sid τs n, [(bu, .inl (cyI, 8, .inl b))]]) s.heap.size) s (wF [cU cyI cyB cyO ua ub up aw as' pa β υ ω sid τs n, [(bu, .inl (cyI, 8, .inl b))]]) s.heap [] := ⟨hP, hD0.self, va_S.rf⟩
  have hl := lv_entry [.ref ua, .ref bu, .ref (kS w3), .int i4] (n := 4) (Nat.le_of_ble_eq_true rfl)
  rw [lg_entry_eq]
  generalize (lg_sl [.ref ua, .ref bu, .ref (kS w3), .int i4] ++ List.replicate (4 - (lg_sl [.ref ua, .ref bu, .ref (kS w3), .int i4]).length) Slot.unset).toArray = ls at hl ⊢
  have hl : lv_has ls 4 [(0, .ref ua), (1, .ref bu), (2, .ref (kS w3)), (3, .int i4)] := hl
  clear hP hD0
  suffices main : ∀ (H : Heap) (locs : List Loc), Bd (dC, dI) [(cyI, .int), (cyB, .byte), (cyO, .object "UndoJourneys$World"), (cyA, .array .int), (cyT, .object "UndoJourneysLaw$Trip"), (cyW, .object "UndoJourneysLaw$World"), (cyZ, .boolean)] (va_A (wF [cU cyI cyB cyO ua ub up aw as' pa β υ ω sid τs n, [(bu, .inl (cyI, 8, .inl b))]]) s.heap.size) s (wF [cU cyI cyB cyO ua ub up aw as' pa β υ ω sid τs n, [(bu, .inl (cyI, 8, .inl b))]]) H locs → W p l e (headSpec wqL_writeAll rmL_writeAll).room s m ([.ref ua, .ref bu, .ref (kS w3), .int i4] : List Value).toArray below meth c H locs 0 0 (MQ below (QvF (dC, dI) [(cyI, .int), (cyB, .byte), (cyO, .object "UndoJourneys$World"), (cyA, .array .int), (cyT, .object "UndoJourneysLaw$Trip"), (cyW, .object "UndoJourneysLaw$World"), (cyZ, .boolean)] (wF [cU cyI cyB cyO ua ub up aw as' pa β υ ω sid τs n, [(bu, .inl (cyI, 8, .inl b))]]) (wF [cU cyI cyB cyO ua ub up aw as' pa β_ υ_ ω sid τs n, [(bu, .inl (cyI, 8, .inl b_))]]) s.heap.size) ([.ref ua, .ref bu, .ref (kS w3), .int i4] : List Value).toArray s 0 0 (va_A (wF [cU cyI cyB cyO ua ub up aw as' pa β υ ω sid τs n, [(bu, .inl (cyI, 8, .inl b))]]) s.heap.size)) (F0 m 0 ls []) from main _ _ hB
  clear hB
  intro H locs hB
  unfold mL_writeAll at hf
  refine lv_aload_n hx hb dL_writeAll_0 rfl (lv_at hl 0 rfl) ?_
  refine lv_aload_n hx hb dL_writeAll_1 rfl (lv_at hl 1 rfl) ?_
  refine lv_aload_n hx hb dL_writeAll_2 rfl (lv_at hl 2 rfl) ?_
  obtain ⟨β1, υ2, b3, hc, hf⟩ := ob3_s hf
  refine e_Sv (S := Unit) (As := [.ref ua, .ref bu, .ref (kS w3)]) (rest := []) (wc := (wF [cU cyI cyB cyO ua ub up aw as' pa β υ ω sid τs n, [(bu, .inl (cyI, 8, .inl b))]])) (wr := (wF [])) (w1 := fun _ => (wF [cU cyI cyB cyO ua ub up aw as' pa β1 υ2 ω sid τs n, [(bu, .inl (cyI, 8, .inl b3))]])) ⟨hx, hb, hml, hown, hts⟩ (kL_write l hl0 dC dI cyI cyB cyO cyA cyT cyW cyZ ua ub up aw as' kS bu H.size hw3 hc) (va_cwS 3 hts (gv_L_write_95 hgb) rfl rfl rfl (by decide +kernel) ⟨(Nat.le_of_ble_eq_true rfl), (Nat.le_of_ble_eq_true rfl)⟩) (epre_left hEV (hB.perm ((wperm (L' := [cU cyI cyB cyO ua ub up aw as' pa β υ ω sid τs n, [(bu, .inl (cyI, 8, .inl b))]]) [0, 1] (by decide +kernel) rfl rfl).trans (wF_cut (a := [cU cyI cyB cyO ua ub up aw as' pa β υ ω sid τs n, [(bu, .inl (cyI, 8, .inl b))]]) (b := [])))) hA hK [.ref ua, .ref bu, .ref (kS w3)]) hB hA ((wperm (L' := [cU cyI cyB cyO ua ub up aw as' pa β υ ω sid τs n, [(bu, .inl (cyI, 8, .inl b))]]) [0, 1] (by decide +kernel) rfl rfl).trans (wF_cut (a := [cU cyI cyB cyO ua ub up aw as' pa β υ ω sid τs n, [(bu, .inl (cyI, 8, .inl b))]]) (b := []))) rfl hl.1 rfl (Nat.le_of_ble_eq_true rfl) dL_writeAll_3 ⟨(Nat.le_of_ble_eq_true rfl), (Nat.le_of_ble_eq_true rfl)⟩ (fun _ H locs hr9 hB => ?_)
  have hB := hB.perm wF_uncut
  have hB := hB.perm (wperm (L' := [cU cyI cyB cyO ua ub up aw as' pa β1 υ2 ω sid τs n, [(bu, .inl (cyI, 8, .inl b3))]]) [0, 1] (by decide +kernel) rfl rfl)
  refine lv_aload_n hx hb dL_writeAll_6 rfl (lv_at hl 0 rfl) ?_
  refine lv_aload_n hx hb dL_writeAll_7 rfl (lv_at hl 1 rfl) ?_
  refine lv_iload_n hx hb dL_writeAll_8 rfl (lv_at hl 3 rfl) ?_
  obtain ⟨β4, υ5, b6, hc, hf⟩ := ob3_s hf
  refine e_Sv (S := Unit) (As := [.ref ua, .ref bu, .int i4]) (rest := []) (wc := (wF [cU cyI cyB cyO ua ub up aw as' pa β1 υ2 ω sid τs n, [(bu, .inl (cyI, 8, .inl b3))]])) (wr := (wF [])) (w1 := fun _ => (wF [cU cyI cyB cyO ua ub up aw as' pa β4 υ5 ω sid τs n, [(bu, .inl (cyI, 8, .inl b6))]])) ⟨hx, hb, hml, hown, hts⟩ (kL_writeNumber l hl0 dC dI cyI cyB cyO cyA cyT cyW cyZ ua ub up aw as' kS bu H.size hc) (va_cwS 3 hts (gv_L_writeNumber_99 hgb) rfl rfl rfl (by decide +kernel) ⟨(Nat.le_of_ble_eq_true rfl), (Nat.le_of_ble_eq_true rfl)⟩) (epre_left hEV (hB.perm ((wperm (L' := [cU cyI cyB cyO ua ub up aw as' pa β1 υ2 ω sid τs n, [(bu, .inl (cyI, 8, .inl b3))]]) [0, 1] (by decide +kernel) rfl rfl).trans (wF_cut (a := [cU cyI cyB cyO ua ub up aw as' pa β1 υ2 ω sid τs n, [(bu, .inl (cyI, 8, .inl b3))]]) (b := [])))) hA hK [.ref ua, .ref bu, .int i4]) hB hA ((wperm (L' := [cU cyI cyB cyO ua ub up aw as' pa β1 υ2 ω sid τs n, [(bu, .inl (cyI, 8, .inl b3))]]) [0, 1] (by decide +kernel) rfl rfl).trans (wF_cut (a := [cU cyI cyB cyO ua ub up aw as' pa β1 υ2 ω sid τs n, [(bu, .inl (cyI, 8, .inl b3))]]) (b := []))) rfl hl.1 rfl (Nat.le_of_ble_eq_true rfl) dL_writeAll_9 ⟨(Nat.le_of_ble_eq_true rfl), (Nat.le_of_ble_eq_true rfl)⟩ (fun _ H locs hr9 hB => ?_)
  have hB := hB.perm wF_uncut
  have hB := hB.perm (wperm (L' := [cU cyI cyB cyO ua ub up aw as' pa β4 υ5 ω sid τs n, [(bu, .inl (cyI, 8, .inl b6))]]) [0, 1] (by decide +kernel) rfl rfl)
  obtain ⟨e0, e1, e2⟩ := inj3 hf
  subst e0
  subst e1
  subst e2
  exact g_lvret (v := 0) (r := 0) hx hb hr hlocks hK hB (Nat.le_of_ble_eq_true rfl) (Nat.le_of_ble_eq_true rfl) dL_writeAll_12
