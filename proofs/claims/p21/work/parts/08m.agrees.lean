abbrev rmL_agrees : Room := { frames := 9, cells := 2000, slots := 12000, locals := 184 }

set_option maxHeartbeats 8000000 in
set_option maxRecDepth 100000 in
theorem kL_agrees (l : Launch) (hl0 : l.stackTraces = false) (dC : Nat → ClassId) (dI : Nat → Nat → Nat) (cyI cyB cyO cyA cyT cyW cyZ : ClassId) (ua ub up : Nat) (aw as' : Nat → Nat → Nat) (kS : Nat → Nat) (wa ks ts : Nat) (kr ta sa : PA) (ra : Nat → PA) (sz : Nat) {fu : Nat} {K : Nat} {mT : Nat} {Ns : PA} {τs : WS} {n : Nat} {pa : PA} {β : FS} {υ : MS} {ω : WS} {sid : PA} {ζ : MS} {κ : MS} {Φ : WS} {Ψ : WS} {r : Int32} (hf : mL_agrees fu K mT Ns τs n pa β υ ω sid ζ κ Φ Ψ = some r) : Met l yL_agrees wqL_agrees rmL_agrees (PcE (dC, dI) [(cyI, .int), (cyB, .byte), (cyO, .object "UndoJourneys$World"), (cyA, .array .int), (cyT, .object "UndoJourneysLaw$Trip"), (cyW, .object "UndoJourneysLaw$World"), (cyZ, .boolean)] kS (wF [cU cyI cyB cyO ua ub up aw as' pa β υ ω sid τs n, cX cyI cyA cyT wa ks ts kr ta sa ra K mT Ns ζ κ Φ Ψ]) sz [.ref ua, .ref wa]) (QzF (dC, dI) [(cyI, .int), (cyB, .byte), (cyO, .object "UndoJourneys$World"), (cyA, .array .int), (cyT, .object "UndoJourneysLaw$Trip"), (cyW, .object "UndoJourneysLaw$World"), (cyZ, .boolean)] (wF [cU cyI cyB cyO ua ub up aw as' pa β υ ω sid τs n, cX cyI cyA cyT wa ks ts kr ta sa ra K mT Ns ζ κ Φ Ψ]) (wF [cU cyI cyB cyO ua ub up aw as' pa β υ ω sid τs n, cX cyI cyA cyT wa ks ts kr ta sa ra K mT Ns ζ κ Φ Ψ]) sz r) 2000 12000 (va_A (wF [cU cyI cyB cyO ua ub up aw as' pa β υ ω sid τs n, cX cyI cyA cyT wa ks ts kr ta sa ra K mT Ns ζ κ Φ Ψ]) sz) := by
  refine Met.ofW (cc := cL_agrees) (maxL := 7) (ret := (some .boolean)) (by decide) rfl ?_
  intro p e s m args below meth c s₁ B hml hv
  obtain ⟨rfl, ⟨hsz, hP, hK, hD0⟩, hEV⟩ := hv
  obtain ⟨hEX, hNC, hJ, hNw, hNw3, hAOw, hN6, hN5, hAOT, hAOW, hAOA, hCl⟩ := id hEV
  have hx := B.exec
  have hb := B.bytes
  have hr := B.returns
  have hts := atoms_spec (ws := wqL_agrees) B.pre
  have hgb : ∀ w ∈ gw_tbl, w ∈ wqL_agrees := fun w h => List.mem_cons_of_mem _ h
  have hown : s.vm.findClass RL = some m.cls := findClass_of_methodNamed B.named
  have hlocks := B.notSynchronized
  subst hsz
  have hA : ∀ q : Nat, s.heap.size ≤ q → va_A (wF [cU cyI cyB cyO ua ub up aw as' pa β υ ω sid τs n, cX cyI cyA cyT wa ks ts kr ta sa ra K mT Ns ζ κ Φ Ψ]) s.heap.size q := fun q h => Or.inr h
  have hB : Bd (dC, dI) [(cyI, .int), (cyB, .byte), (cyO, .object "UndoJourneys$World"), (cyA, .array .int), (cyT, .object "UndoJourneysLaw$Trip"), (cyW, .object "UndoJourneysLaw$World"), (cyZ, .boolean)] (va_A (wF [cU cyI cyB cyO ua ub up aw as' pa β υ ω sid τs n, cX cyI cyA cyT wa ks ts kr ta sa ra K mT Ns ζ κ Φ Ψ]) s.heap.size) s (wF [cU cyI cyB cyO ua ub up aw as' pa β υ ω sid τs n, cX cyI cyA cyT wa ks ts kr ta sa ra K mT Ns ζ κ Φ Ψ]) s.heap [] := ⟨hP, hD0.self, va_S.rf⟩
  have hq0 : (Cond.constant RL 42 (-2000000098)).before _ s = true := hts _ (hgb _ (gwt (tb3 175 rfl) (by decide +kernel)))
  have hq1 : (Cond.fieldLink RL 112 "UndoJourneysLaw$World" "stocks" "[[I").before _ s = true := hts _ (hgb _ (gwt (tb2 26 rfl) (by decide +kernel)))
  have hq2 : (Cond.fieldLink RL 132 "UndoJourneysLaw$World" "trips" "[LUndoJourneysLaw$Trip;").before _ s = true := hts _ (hgb _ (gwt (tb2 28 rfl) (by decide +kernel)))
  have hq3 : (Cond.fieldLink RL 148 "UndoJourneysLaw$Trip" "steps" "[[I").before _ s = true := hts _ (hgb _ (gwt (tb2 83 rfl) (by decide +kernel)))
  have hq4 : (Cond.constant RL 62 (-2000000100)).before _ s = true := hts _ (hgb _ (gwt (tb3 226 rfl) (by decide +kernel)))
  have hq5 : (Cond.constant RL 52 (-2000000097)).before _ s = true := hts _ (hgb _ (gwt (tb3 225 rfl) (by decide +kernel)))
  have hinX5 : ∀ w ∈ wsX50, w ∈ wqL_agrees := fun w h => hgb _ (gwt (t_wsX50 w h) (List.all_eq_true.mp (by decide +kernel : wsX50.all goodWord = true) w h))
  have hinX6 : ∀ w ∈ wsX60, w ∈ wqL_agrees := fun w h => hgb _ (gwt (t_wsX60 w h) (List.all_eq_true.mp (by decide +kernel : wsX60.all goodWord = true) w h))
  have hl := lv_entry [.ref ua, .ref wa] (n := 7) (Nat.le_of_ble_eq_true rfl)
  rw [lg_entry_eq]
  generalize (lg_sl [.ref ua, .ref wa] ++ List.replicate (7 - (lg_sl [.ref ua, .ref wa]).length) Slot.unset).toArray = ls at hl ⊢
  have hl : lv_has ls 7 [(0, .ref ua), (1, .ref wa)] := hl
  clear hP hD0
  suffices main : ∀ (H : Heap) (locs : List Loc), Bd (dC, dI) [(cyI, .int), (cyB, .byte), (cyO, .object "UndoJourneys$World"), (cyA, .array .int), (cyT, .object "UndoJourneysLaw$Trip"), (cyW, .object "UndoJourneysLaw$World"), (cyZ, .boolean)] (va_A (wF [cU cyI cyB cyO ua ub up aw as' pa β υ ω sid τs n, cX cyI cyA cyT wa ks ts kr ta sa ra K mT Ns ζ κ Φ Ψ]) s.heap.size) s (wF [cU cyI cyB cyO ua ub up aw as' pa β υ ω sid τs n, cX cyI cyA cyT wa ks ts kr ta sa ra K mT Ns ζ κ Φ Ψ]) H locs → W p l e (headSpec wqL_agrees rmL_agrees).room s m ([.ref ua, .ref wa] : List Value).toArray below meth c H locs 0 0 (MQ below (QzF (dC, dI) [(cyI, .int), (cyB, .byte), (cyO, .object "UndoJourneys$World"), (cyA, .array .int), (cyT, .object "UndoJourneysLaw$Trip"), (cyW, .object "UndoJourneysLaw$World"), (cyZ, .boolean)] (wF [cU cyI cyB cyO ua ub up aw as' pa β υ ω sid τs n, cX cyI cyA cyT wa ks ts kr ta sa ra K mT Ns ζ κ Φ Ψ]) (wF [cU cyI cyB cyO ua ub up aw as' pa β υ ω sid τs n, cX cyI cyA cyT wa ks ts kr ta sa ra K mT Ns ζ κ Φ Ψ]) s.heap.size r) ([.ref ua, .ref wa] : List Value).toArray s 2000 12000 (va_A (wF [cU cyI cyB cyO ua ub up aw as' pa β υ ω sid τs n, cX cyI cyA cyT wa ks ts kr ta sa ra K mT Ns ζ κ Φ Ψ]) s.heap.size)) (F0 m 0 ls []) from main _ _ hB
  clear hB
  intro H locs hB
  unfold mL_agrees at hf
  refine lv_aload_n hx hb dL_agrees_0 rfl (lv_at hl 0 rfl) ?_
  obtain ⟨r1, hc, hf⟩ := ob1_s hf
  refine e_Vl (S := Unit) (As := []) (rest := []) (wc := cU cyI cyB cyO ua ub up aw as' pa β υ ω sid τs n) (wr := (wF [cX cyI cyA cyT wa ks ts kr ta sa ra K mT Ns ζ κ Φ Ψ])) (w1 := fun _ => cU cyI cyB cyO ua ub up aw as' pa β υ ω sid τs n) ⟨hx, hb, hml, hown, hts⟩ (kX3_checksum l dC dI cyI cyB cyO ua ub up aw as' H.size hc) (cwV 0 hts (gv_X3_checksum_176 hgb) rfl rfl rfl (by decide +kernel) ⟨(Nat.le_of_ble_eq_true rfl), (Nat.le_of_ble_eq_true rfl)⟩) (pcut_pre (hB.perm (wperm (L' := [cU cyI cyB cyO ua ub up aw as' pa β υ ω sid τs n, cX cyI cyA cyT wa ks ts kr ta sa ra K mT Ns ζ κ Φ Ψ]) [0, 1] (by decide +kernel) rfl rfl)) (hK.sub [0, 1, 2] rfl) (.ref ua :: [])) hB hA (g_recv (ci := 3) hK (hB.perm (wperm (L' := [cU cyI cyB cyO ua ub up aw as' pa β υ ω sid τs n, cX cyI cyA cyT wa ks ts kr ta sa ra K mT Ns ζ κ Φ Ψ]) [0, 1] (by decide +kernel) rfl rfl)) 0 rfl rfl rfl) (wperm (L' := [cU cyI cyB cyO ua ub up aw as' pa β υ ω sid τs n, cX cyI cyA cyT wa ks ts kr ta sa ra K mT Ns ζ κ Φ Ψ]) [0, 1] (by decide +kernel) rfl rfl) rfl hl.1 rfl (Nat.le_of_ble_eq_true rfl) dL_agrees_1 ⟨(Nat.le_of_ble_eq_true rfl), (Nat.le_of_ble_eq_true rfl)⟩ (fun r9 _ H locs hr9 hB => ?_)
  rw [hr9]
  have hB := hB.perm wF_un1
  have hB := hB.perm (wperm (L' := [cU cyI cyB cyO ua ub up aw as' pa β υ ω sid τs n, cX cyI cyA cyT wa ks ts kr ta sa ra K mT Ns ζ κ Φ Ψ]) [0, 1] (by decide +kernel) rfl rfl)
  refine lv_aload_n hx hb dL_agrees_4 rfl (lv_at hl 1 rfl) ?_
  obtain ⟨r2, hc, hf⟩ := ob1_s hf
  refine e_Vl (S := Unit) (As := []) (rest := [.long r1]) (wc := cX cyI cyA cyT wa ks ts kr ta sa ra K mT Ns ζ κ Φ Ψ) (wr := (wF [cU cyI cyB cyO ua ub up aw as' pa β υ ω sid τs n])) (w1 := fun _ => cX cyI cyA cyT wa ks ts kr ta sa ra K mT Ns ζ κ Φ Ψ) ⟨hx, hb, hml, hown, hts⟩ (kX6_checksum l dC dI cyI cyA cyT wa ks ts kr ta sa ra H.size hc) (cwV 0 hts (gv_X6_checksum_180 hgb) rfl rfl rfl (by decide +kernel) ⟨(Nat.le_of_ble_eq_true rfl), (Nat.le_of_ble_eq_true rfl)⟩) (pcut_pre (hB.perm (wperm (L' := [cX cyI cyA cyT wa ks ts kr ta sa ra K mT Ns ζ κ Φ Ψ, cU cyI cyB cyO ua ub up aw as' pa β υ ω sid τs n]) [1, 0] (by decide +kernel) rfl rfl)) (hK.sub [0, 3, 4] rfl) (.ref wa :: [])) hB hA (g_recv (ci := 6) hK (hB.perm (wperm (L' := [cX cyI cyA cyT wa ks ts kr ta sa ra K mT Ns ζ κ Φ Ψ, cU cyI cyB cyO ua ub up aw as' pa β υ ω sid τs n]) [1, 0] (by decide +kernel) rfl rfl)) 0 rfl rfl rfl) (wperm (L' := [cX cyI cyA cyT wa ks ts kr ta sa ra K mT Ns ζ κ Φ Ψ, cU cyI cyB cyO ua ub up aw as' pa β υ ω sid τs n]) [1, 0] (by decide +kernel) rfl rfl) rfl hl.1 rfl (Nat.le_of_ble_eq_true rfl) dL_agrees_5 ⟨(Nat.le_of_ble_eq_true rfl), (Nat.le_of_ble_eq_true rfl)⟩ (fun r9 _ H locs hr9 hB => ?_)
  rw [hr9]
  have hB := hB.perm wF_un1
  have hB := hB.perm (wperm (L' := [cU cyI cyB cyO ua ub up aw as' pa β υ ω sid τs n, cX cyI cyA cyT wa ks ts kr ta sa ra K mT Ns ζ κ Φ Ψ]) [1, 0] (by decide +kernel) rfl rfl)
  refine W.lcmp hx hb dL_agrees_8 ?_
  obtain ⟨v3, hJ5, hf⟩ := ob1_s hf
  have kJ6 : (v3 = 0 ∨ v3 = 1) → ∀ (H : Heap) (locs : List Loc) (ls : Array Slot), Bd (dC, dI) [(cyI, .int), (cyB, .byte), (cyO, .object "UndoJourneys$World"), (cyA, .array .int), (cyT, .object "UndoJourneysLaw$Trip"), (cyW, .object "UndoJourneysLaw$World"), (cyZ, .boolean)] (va_A (wF [cU cyI cyB cyO ua ub up aw as' pa β υ ω sid τs n, cX cyI cyA cyT wa ks ts kr ta sa ra K mT Ns ζ κ Φ Ψ]) s.heap.size) s (wF [cU cyI cyB cyO ua ub up aw as' pa β υ ω sid τs n, cX cyI cyA cyT wa ks ts kr ta sa ra K mT Ns ζ κ Φ Ψ]) H locs → lv_has ls 7 [(0, .ref ua), (1, .ref wa)] → W p l e (headSpec wqL_agrees rmL_agrees).room s m ([.ref ua, .ref wa] : List Value).toArray below meth c H locs 1 6 (MQ below (QzF (dC, dI) [(cyI, .int), (cyB, .byte), (cyO, .object "UndoJourneys$World"), (cyA, .array .int), (cyT, .object "UndoJourneysLaw$Trip"), (cyW, .object "UndoJourneysLaw$World"), (cyZ, .boolean)] (wF [cU cyI cyB cyO ua ub up aw as' pa β υ ω sid τs n, cX cyI cyA cyT wa ks ts kr ta sa ra K mT Ns ζ κ Φ Ψ]) (wF [cU cyI cyB cyO ua ub up aw as' pa β υ ω sid τs n, cX cyI cyA cyT wa ks ts kr ta sa ra K mT Ns ζ κ Φ Ψ]) s.heap.size r) ([.ref ua, .ref wa] : List Value).toArray s 2000 12000 (va_A (wF [cU cyI cyB cyO ua ub up aw as' pa β υ ω sid τs n, cX cyI cyA cyT wa ks ts kr ta sa ra K mT Ns ζ κ Φ Ψ]) s.heap.size)) (F0 m 28 ls [.int v3]) := by
    intro z4 H locs ls hB hl
    refine lv_istore_n (lv' := [(2, .int v3), (0, .ref ua), (1, .ref wa)]) hx hb dL_agrees_28 rfl hl (by decide) rfl (fun ls hl => ?_)
    refine lv_iconst (v := (0 : Int32)) hx hb dL_agrees_29 (by decide) ?_
    refine lv_istore_n (lv' := [(3, .int (0 : Int32)), (2, .int v3), (0, .ref ua), (1, .ref wa)]) hx hb dL_agrees_30 rfl hl (by decide) rfl (fun ls hl => ?_)
    obtain ⟨v38, hL41, hf⟩ := ob1_s hf
    have kE39 : ∀  (H : Heap) (locs : List Loc) (ls : Array Slot), Bd (dC, dI) [(cyI, .int), (cyB, .byte), (cyO, .object "UndoJourneys$World"), (cyA, .array .int), (cyT, .object "UndoJourneysLaw$Trip"), (cyW, .object "UndoJourneysLaw$World"), (cyZ, .boolean)] (va_A (wF [cU cyI cyB cyO ua ub up aw as' pa β υ ω sid τs n, cX cyI cyA cyT wa ks ts kr ta sa ra K mT Ns ζ κ Φ Ψ]) s.heap.size) s (wF [cU cyI cyB cyO ua ub up aw as' pa β υ ω sid τs n, cX cyI cyA cyT wa ks ts kr ta sa ra K mT Ns ζ κ Φ Ψ]) H locs → lv_has ls 7 [(2, .int v38), (0, .ref ua), (1, .ref wa)] → W p l e (headSpec wqL_agrees rmL_agrees).room s m ([.ref ua, .ref wa] : List Value).toArray below meth c H locs 12 72 (MQ below (QzF (dC, dI) [(cyI, .int), (cyB, .byte), (cyO, .object "UndoJourneys$World"), (cyA, .array .int), (cyT, .object "UndoJourneysLaw$Trip"), (cyW, .object "UndoJourneysLaw$World"), (cyZ, .boolean)] (wF [cU cyI cyB cyO ua ub up aw as' pa β υ ω sid τs n, cX cyI cyA cyT wa ks ts kr ta sa ra K mT Ns ζ κ Φ Ψ]) (wF [cU cyI cyB cyO ua ub up aw as' pa β υ ω sid τs n, cX cyI cyA cyT wa ks ts kr ta sa ra K mT Ns ζ κ Φ Ψ]) s.heap.size r) ([.ref ua, .ref wa] : List Value).toArray s 2000 12000 (va_A (wF [cU cyI cyB cyO ua ub up aw as' pa β υ ω sid τs n, cX cyI cyA cyT wa ks ts kr ta sa ra K mT Ns ζ κ Φ Ψ]) s.heap.size)) (F0 m 66 ls []) := by
      intro H locs ls hB hl
      refine lv_iconst (v := (0 : Int32)) hx hb dL_agrees_66 (by decide) ?_
      refine lv_istore_n (lv' := [(3, .int (0 : Int32)), (2, .int v38), (0, .ref ua), (1, .ref wa)]) hx hb dL_agrees_67 rfl hl (by decide) rfl (fun ls hl => ?_)
      obtain ⟨v109, hL112, hf⟩ := ob1_s hf
      have kE110 : ∀  (H : Heap) (locs : List Loc) (ls : Array Slot), Bd (dC, dI) [(cyI, .int), (cyB, .byte), (cyO, .object "UndoJourneys$World"), (cyA, .array .int), (cyT, .object "UndoJourneysLaw$Trip"), (cyW, .object "UndoJourneysLaw$World"), (cyZ, .boolean)] (va_A (wF [cU cyI cyB cyO ua ub up aw as' pa β υ ω sid τs n, cX cyI cyA cyT wa ks ts kr ta sa ra K mT Ns ζ κ Φ Ψ]) s.heap.size) s (wF [cU cyI cyB cyO ua ub up aw as' pa β υ ω sid τs n, cX cyI cyA cyT wa ks ts kr ta sa ra K mT Ns ζ κ Φ Ψ]) H locs → lv_has ls 7 [(2, .int v109), (0, .ref ua), (1, .ref wa)] → W p l e (headSpec wqL_agrees rmL_agrees).room s m ([.ref ua, .ref wa] : List Value).toArray below meth c H locs 82 492 (MQ below (QzF (dC, dI) [(cyI, .int), (cyB, .byte), (cyO, .object "UndoJourneys$World"), (cyA, .array .int), (cyT, .object "UndoJourneysLaw$Trip"), (cyW, .object "UndoJourneysLaw$World"), (cyZ, .boolean)] (wF [cU cyI cyB cyO ua ub up aw as' pa β υ ω sid τs n, cX cyI cyA cyT wa ks ts kr ta sa ra K mT Ns ζ κ Φ Ψ]) (wF [cU cyI cyB cyO ua ub up aw as' pa β υ ω sid τs n, cX cyI cyA cyT wa ks ts kr ta sa ra K mT Ns ζ κ Φ Ψ]) s.heap.size r) ([.ref ua, .ref wa] : List Value).toArray s 2000 12000 (va_A (wF [cU cyI cyB cyO ua ub up aw as' pa β υ ω sid τs n, cX cyI cyA cyT wa ks ts kr ta sa ra K mT Ns ζ κ Φ Ψ]) s.heap.size)) (F0 m 130 ls []) := by
        intro H locs ls hB hl
        refine lv_iconst (v := (0 : Int32)) hx hb dL_agrees_130 (by decide) ?_
        refine lv_istore_n (lv' := [(3, .int (0 : Int32)), (2, .int v109), (0, .ref ua), (1, .ref wa)]) hx hb dL_agrees_131 rfl hl (by decide) rfl (fun ls hl => ?_)
        obtain ⟨v318, hL321, hf⟩ := ob1_s hf
        have kE319 : ∀  (H : Heap) (locs : List Loc) (ls : Array Slot), Bd (dC, dI) [(cyI, .int), (cyB, .byte), (cyO, .object "UndoJourneys$World"), (cyA, .array .int), (cyT, .object "UndoJourneysLaw$Trip"), (cyW, .object "UndoJourneysLaw$World"), (cyZ, .boolean)] (va_A (wF [cU cyI cyB cyO ua ub up aw as' pa β υ ω sid τs n, cX cyI cyA cyT wa ks ts kr ta sa ra K mT Ns ζ κ Φ Ψ]) s.heap.size) s (wF [cU cyI cyB cyO ua ub up aw as' pa β υ ω sid τs n, cX cyI cyA cyT wa ks ts kr ta sa ra K mT Ns ζ κ Φ Ψ]) H locs → lv_has ls 7 [(2, .int v318), (0, .ref ua), (1, .ref wa)] → W p l e (headSpec wqL_agrees rmL_agrees).room s m ([.ref ua, .ref wa] : List Value).toArray below meth c H locs 1780 10680 (MQ below (QzF (dC, dI) [(cyI, .int), (cyB, .byte), (cyO, .object "UndoJourneys$World"), (cyA, .array .int), (cyT, .object "UndoJourneysLaw$Trip"), (cyW, .object "UndoJourneysLaw$World"), (cyZ, .boolean)] (wF [cU cyI cyB cyO ua ub up aw as' pa β υ ω sid τs n, cX cyI cyA cyT wa ks ts kr ta sa ra K mT Ns ζ κ Φ Ψ]) (wF [cU cyI cyB cyO ua ub up aw as' pa β υ ω sid τs n, cX cyI cyA cyT wa ks ts kr ta sa ra K mT Ns ζ κ Φ Ψ]) s.heap.size r) ([.ref ua, .ref wa] : List Value).toArray s 2000 12000 (va_A (wF [cU cyI cyB cyO ua ub up aw as' pa β υ ω sid τs n, cX cyI cyA cyT wa ks ts kr ta sa ra K mT Ns ζ κ Φ Ψ]) s.heap.size)) (F0 m 297 ls []) := by
          intro H locs ls hB hl
          refine lv_iload_n hx hb dL_agrees_297 rfl (lv_at hl 0 rfl) ?_
          obtain ⟨v323, hJ325, hf⟩ := ob1_s hf
          have kJ326 : (v323 = 0 ∨ v323 = 1) → ∀ (H : Heap) (locs : List Loc) (ls : Array Slot), Bd (dC, dI) [(cyI, .int), (cyB, .byte), (cyO, .object "UndoJourneys$World"), (cyA, .array .int), (cyT, .object "UndoJourneysLaw$Trip"), (cyW, .object "UndoJourneysLaw$World"), (cyZ, .boolean)] (va_A (wF [cU cyI cyB cyO ua ub up aw as' pa β υ ω sid τs n, cX cyI cyA cyT wa ks ts kr ta sa ra K mT Ns ζ κ Φ Ψ]) s.heap.size) s (wF [cU cyI cyB cyO ua ub up aw as' pa β υ ω sid τs n, cX cyI cyA cyT wa ks ts kr ta sa ra K mT Ns ζ κ Φ Ψ]) H locs → lv_has ls 7 [] → W p l e (headSpec wqL_agrees rmL_agrees).room s m ([.ref ua, .ref wa] : List Value).toArray below meth c H locs 1784 10704 (MQ below (QzF (dC, dI) [(cyI, .int), (cyB, .byte), (cyO, .object "UndoJourneys$World"), (cyA, .array .int), (cyT, .object "UndoJourneysLaw$Trip"), (cyW, .object "UndoJourneysLaw$World"), (cyZ, .boolean)] (wF [cU cyI cyB cyO ua ub up aw as' pa β υ ω sid τs n, cX cyI cyA cyT wa ks ts kr ta sa ra K mT Ns ζ κ Φ Ψ]) (wF [cU cyI cyB cyO ua ub up aw as' pa β υ ω sid τs n, cX cyI cyA cyT wa ks ts kr ta sa ra K mT Ns ζ κ Φ Ψ]) s.heap.size r) ([.ref ua, .ref wa] : List Value).toArray s 2000 12000 (va_A (wF [cU cyI cyB cyO ua ub up aw as' pa β υ ω sid τs n, cX cyI cyA cyT wa ks ts kr ta sa ra K mT Ns ζ κ Φ Ψ]) s.heap.size)) (F0 m 336 ls [.int v323]) := by
            intro z324 H locs ls hB hl
            have e0 := inj1 hf
            subst e0
            exact g_lzret hx hb hr hlocks hK hB z324 (Nat.le_of_ble_eq_true rfl) (Nat.le_of_ble_eq_true rfl) dL_agrees_336
          obtain ⟨t327, hD328, hJ325⟩ := ob1_s hJ325
          have kTt327 : t327 = true → ∀ (H : Heap) (locs : List Loc), Bd (dC, dI) [(cyI, .int), (cyB, .byte), (cyO, .object "UndoJourneys$World"), (cyA, .array .int), (cyT, .object "UndoJourneysLaw$Trip"), (cyW, .object "UndoJourneysLaw$World"), (cyZ, .boolean)] (va_A (wF [cU cyI cyB cyO ua ub up aw as' pa β υ ω sid τs n, cX cyI cyA cyT wa ks ts kr ta sa ra K mT Ns ζ κ Φ Ψ]) s.heap.size) s (wF [cU cyI cyB cyO ua ub up aw as' pa β υ ω sid τs n, cX cyI cyA cyT wa ks ts kr ta sa ra K mT Ns ζ κ Φ Ψ]) H locs → W p l e (headSpec wqL_agrees rmL_agrees).room s m ([.ref ua, .ref wa] : List Value).toArray below meth c H locs 1784 10704 (MQ below (QzF (dC, dI) [(cyI, .int), (cyB, .byte), (cyO, .object "UndoJourneys$World"), (cyA, .array .int), (cyT, .object "UndoJourneysLaw$Trip"), (cyW, .object "UndoJourneysLaw$World"), (cyZ, .boolean)] (wF [cU cyI cyB cyO ua ub up aw as' pa β υ ω sid τs n, cX cyI cyA cyT wa ks ts kr ta sa ra K mT Ns ζ κ Φ Ψ]) (wF [cU cyI cyB cyO ua ub up aw as' pa β υ ω sid τs n, cX cyI cyA cyT wa ks ts kr ta sa ra K mT Ns ζ κ Φ Ψ]) s.heap.size r) ([.ref ua, .ref wa] : List Value).toArray s 2000 12000 (va_A (wF [cU cyI cyB cyO ua ub up aw as' pa β υ ω sid τs n, cX cyI cyA cyT wa ks ts kr ta sa ra K mT Ns ζ κ Φ Ψ]) s.heap.size)) (F0 m 331 ls []) := by
            intro ht H locs hB
            have hJ325 := cnd_t ht hJ325
            refine lv_iconst (v := (1 : Int32)) hx hb dL_agrees_331 (by decide) ?_
            refine lv_goto (tgt := 336) hx hb dL_agrees_332 (by decide) ?_
            have e0 := inj1 hJ325
            subst e0
            exact kJ326 (Or.inr rfl) _ _ _ hB (lv_sub hl [] rfl)
          have kFt327 : t327 = false → ∀ (H : Heap) (locs : List Loc), Bd (dC, dI) [(cyI, .int), (cyB, .byte), (cyO, .object "UndoJourneys$World"), (cyA, .array .int), (cyT, .object "UndoJourneysLaw$Trip"), (cyW, .object "UndoJourneysLaw$World"), (cyZ, .boolean)] (va_A (wF [cU cyI cyB cyO ua ub up aw as' pa β υ ω sid τs n, cX cyI cyA cyT wa ks ts kr ta sa ra K mT Ns ζ κ Φ Ψ]) s.heap.size) s (wF [cU cyI cyB cyO ua ub up aw as' pa β υ ω sid τs n, cX cyI cyA cyT wa ks ts kr ta sa ra K mT Ns ζ κ Φ Ψ]) H locs → W p l e (headSpec wqL_agrees rmL_agrees).room s m ([.ref ua, .ref wa] : List Value).toArray below meth c H locs 1784 10704 (MQ below (QzF (dC, dI) [(cyI, .int), (cyB, .byte), (cyO, .object "UndoJourneys$World"), (cyA, .array .int), (cyT, .object "UndoJourneysLaw$Trip"), (cyW, .object "UndoJourneysLaw$World"), (cyZ, .boolean)] (wF [cU cyI cyB cyO ua ub up aw as' pa β υ ω sid τs n, cX cyI cyA cyT wa ks ts kr ta sa ra K mT Ns ζ κ Φ Ψ]) (wF [cU cyI cyB cyO ua ub up aw as' pa β υ ω sid τs n, cX cyI cyA cyT wa ks ts kr ta sa ra K mT Ns ζ κ Φ Ψ]) s.heap.size r) ([.ref ua, .ref wa] : List Value).toArray s 2000 12000 (va_A (wF [cU cyI cyB cyO ua ub up aw as' pa β υ ω sid τs n, cX cyI cyA cyT wa ks ts kr ta sa ra K mT Ns ζ κ Φ Ψ]) s.heap.size)) (F0 m 335 ls []) := by
            intro ht H locs hB
            have hJ325 := cnd_f ht hJ325
            refine lv_iconst (v := (0 : Int32)) hx hb dL_agrees_335 (by decide) ?_
            have e0 := inj1 hJ325
            subst e0
            exact kJ326 (Or.inl rfl) _ _ _ hB (lv_sub hl [] rfl)
          refine lv_if_eq (tgt := 335) hx hb dL_agrees_298 (by decide) (fun c329 => ?_) (fun c329 => ?_)
          · have hD328 := ite_t c329 hD328
            have e0 := inj1 hD328
            refine W.widen (k := 1784) (n := 10704) (by omega) (by omega) ?_
            exact kFt327 e0.symm _ _ hB
          · have hD328 := ite_f c329 hD328
            refine lv_aload_n hx hb dL_agrees_301 rfl (lv_at hl 1 rfl) ?_
            refine lv_aload_n hx hb dL_agrees_302 rfl (lv_at hl 2 rfl) ?_
            refine g_get (C := RX6) (T := TX6) (N := 6) hx hb hts hinX6 hown hK (hB.perm (wperm (L' := [cX cyI cyA cyT wa ks ts kr ta sa ra K mT Ns ζ κ Φ Ψ, cU cyI cyB cyO ua ub up aw as' pa β υ ω sid τs n]) [1, 0] (by decide +kernel) rfl rfl)) 0 rfl rfl 4 rfl hq1 rfl rfl dL_agrees_303 ?_
            refine g_alen hx hb hK (hB.perm (wperm (L' := [cX cyI cyA cyT wa ks ts kr ta sa ra K mT Ns ζ κ Φ Ψ, cU cyI cyB cyO ua ub up aw as' pa β υ ω sid τs n]) [1, 0] (by decide +kernel) rfl rfl)) 1 3 rfl rfl (v := (nI K)) rfl dL_agrees_306 ?_
            refine lv_iconst (v := (0 : Int32)) hx hb dL_agrees_307 (by decide) ?_
            obtain ⟨o330, hc, hD328⟩ := ob1_s hD328
            obtain ⟨hc, hE9⟩ := hEl_s hc
            obtain ⟨r331, er9, hD328⟩ := ob1_s hD328
            have er9 := inj1 er9
            refine e_Wi (S := Unit) (As := [.ref ua, .int (nI K), .int (0 : Int32)]) (rest := []) (wc := cU cyI cyB cyO ua ub up aw as' pa β υ ω sid τs n) (wr := (wF [cX cyI cyA cyT wa ks ts kr ta sa ra K mT Ns ζ κ Φ Ψ])) (w1 := fun _ => xU (cU cyI cyB cyO ua ub up aw as' pa β υ ω sid τs n) (fun x => (cU cyI cyB cyO ua ub up aw as' pa β υ ω sid τs n)) o330) ⟨hx, hb, hml, hown, hts⟩ (kL_stock l hl0 dC dI cyI cyB cyO cyA cyT cyW cyZ ua ub up aw as' kS H.size hc hE9) (vx_cwSW 3 hts (gv_L_stock_186 hgb) rfl rfl rfl (by decide +kernel) ⟨(Nat.le_of_ble_eq_true rfl), (Nat.le_of_ble_eq_true rfl)⟩) (epre_left hEV (hB.perm (wperm (L' := [cU cyI cyB cyO ua ub up aw as' pa β υ ω sid τs n, cX cyI cyA cyT wa ks ts kr ta sa ra K mT Ns ζ κ Φ Ψ]) [0, 1] (by decide +kernel) rfl rfl)) hA hK [.ref ua, .int (nI K), .int (0 : Int32)]) hB hA (wperm (L' := [cU cyI cyB cyO ua ub up aw as' pa β υ ω sid τs n, cX cyI cyA cyT wa ks ts kr ta sa ra K mT Ns ζ κ Φ Ψ]) [0, 1] (by decide +kernel) rfl rfl) rfl hl.1 rfl (Nat.le_of_ble_eq_true rfl) dL_agrees_308 ⟨(Nat.le_of_ble_eq_true rfl), (Nat.le_of_ble_eq_true rfl)⟩ (fun r9 _ H locs hr9 hB => ?_)
            rw [hr9, er9]
            rw [xU_same (cU cyI cyB cyO ua ub up aw as' pa β υ ω sid τs n) o330] at hB
            have hB := hB.perm wF_un1
            have hB := hB.perm (wperm (L' := [cU cyI cyB cyO ua ub up aw as' pa β υ ω sid τs n, cX cyI cyA cyT wa ks ts kr ta sa ra K mT Ns ζ κ Φ Ψ]) [0, 1] (by decide +kernel) rfl rfl)
            refine lv_ldc (v := (-2000000097 : Int32)) hx hb hown hq5 dL_agrees_311 ?_
            refine lv_icmp_ne (tgt := 335) hx hb dL_agrees_313 (by decide) (fun c332 => ?_) (fun c332 => ?_)
            · have hD328 := ite_f c332 hD328
              have e0 := inj1 hD328
              refine W.widen (k := 1784) (n := 10704) (by omega) (by omega) ?_
              exact kFt327 e0.symm _ _ hB
            · have hD328 := ite_t c332 hD328
              refine lv_aload_n hx hb dL_agrees_316 rfl (lv_at hl 1 rfl) ?_
              refine lv_aload_n hx hb dL_agrees_317 rfl (lv_at hl 2 rfl) ?_
              refine g_get (C := RX6) (T := TX6) (N := 6) hx hb hts hinX6 hown hK (hB.perm (wperm (L' := [cX cyI cyA cyT wa ks ts kr ta sa ra K mT Ns ζ κ Φ Ψ, cU cyI cyB cyO ua ub up aw as' pa β υ ω sid τs n]) [1, 0] (by decide +kernel) rfl rfl)) 0 rfl rfl 5 rfl hq2 rfl rfl dL_agrees_318 ?_
              refine g_alen hx hb hK (hB.perm (wperm (L' := [cX cyI cyA cyT wa ks ts kr ta sa ra K mT Ns ζ κ Φ Ψ, cU cyI cyB cyO ua ub up aw as' pa β υ ω sid τs n]) [1, 0] (by decide +kernel) rfl rfl)) 2 4 rfl rfl (v := (nI mT)) rfl dL_agrees_321 ?_
              refine lv_iconst (v := (0 : Int32)) hx hb dL_agrees_322 (by decide) ?_
              obtain ⟨o333, hc, hD328⟩ := ob1_s hD328
              obtain ⟨hc, hE9⟩ := hEl_s hc
              obtain ⟨r334, er9, hD328⟩ := ob1_s hD328
              have er9 := inj1 er9
              refine e_Wi (S := Unit) (As := [.ref ua, .int (nI mT), .int (0 : Int32)]) (rest := []) (wc := cU cyI cyB cyO ua ub up aw as' pa β υ ω sid τs n) (wr := (wF [cX cyI cyA cyT wa ks ts kr ta sa ra K mT Ns ζ κ Φ Ψ])) (w1 := fun _ => xU (cU cyI cyB cyO ua ub up aw as' pa β υ ω sid τs n) (fun x => (cU cyI cyB cyO ua ub up aw as' pa β υ ω sid τs n)) o333) ⟨hx, hb, hml, hown, hts⟩ (kL_journey l hl0 dC dI cyI cyB cyO cyA cyT cyW cyZ ua ub up aw as' kS H.size hc hE9) (vx_cwSW 3 hts (gv_L_journey_192 hgb) rfl rfl rfl (by decide +kernel) ⟨(Nat.le_of_ble_eq_true rfl), (Nat.le_of_ble_eq_true rfl)⟩) (epre_left hEV (hB.perm (wperm (L' := [cU cyI cyB cyO ua ub up aw as' pa β υ ω sid τs n, cX cyI cyA cyT wa ks ts kr ta sa ra K mT Ns ζ κ Φ Ψ]) [0, 1] (by decide +kernel) rfl rfl)) hA hK [.ref ua, .int (nI mT), .int (0 : Int32)]) hB hA (wperm (L' := [cU cyI cyB cyO ua ub up aw as' pa β υ ω sid τs n, cX cyI cyA cyT wa ks ts kr ta sa ra K mT Ns ζ κ Φ Ψ]) [0, 1] (by decide +kernel) rfl rfl) rfl hl.1 rfl (Nat.le_of_ble_eq_true rfl) dL_agrees_323 ⟨(Nat.le_of_ble_eq_true rfl), (Nat.le_of_ble_eq_true rfl)⟩ (fun r9 _ H locs hr9 hB => ?_)
              rw [hr9, er9]
              rw [xU_same (cU cyI cyB cyO ua ub up aw as' pa β υ ω sid τs n) o333] at hB
              have hB := hB.perm wF_un1
              have hB := hB.perm (wperm (L' := [cU cyI cyB cyO ua ub up aw as' pa β υ ω sid τs n, cX cyI cyA cyT wa ks ts kr ta sa ra K mT Ns ζ κ Φ Ψ]) [0, 1] (by decide +kernel) rfl rfl)
              refine lv_ldc (v := (-2000000097 : Int32)) hx hb hown hq5 dL_agrees_326 ?_
              refine lv_icmp_ne (tgt := 335) hx hb dL_agrees_328 (by decide) (fun c335 => ?_) (fun c335 => ?_)
              · have hD328 := ite_f c335 hD328
                have e0 := inj1 hD328
                exact kFt327 e0.symm _ _ hB
              · have hD328 := ite_t c335 hD328
                have e0 := inj1 hD328
                exact kTt327 e0.symm _ _ hB
        have key320 : ∀ (n9 : Nat) (v337 : Int32) (v338 : Int32)  (H : Heap) (locs : List Loc) (ls : Array Slot), n9 ≤ 6 → loopM (fun st => mL_agrees_L132 fu K mT Ns τs n pa β υ ω sid ζ κ Φ Ψ st.1 st.2) n9 (v337, v338) = some v318 → Bd (dC, dI) [(cyI, .int), (cyB, .byte), (cyO, .object "UndoJourneys$World"), (cyA, .array .int), (cyT, .object "UndoJourneysLaw$Trip"), (cyW, .object "UndoJourneysLaw$World"), (cyZ, .boolean)] (va_A (wF [cU cyI cyB cyO ua ub up aw as' pa β υ ω sid τs n, cX cyI cyA cyT wa ks ts kr ta sa ra K mT Ns ζ κ Φ Ψ]) s.heap.size) s (wF [cU cyI cyB cyO ua ub up aw as' pa β υ ω sid τs n, cX cyI cyA cyT wa ks ts kr ta sa ra K mT Ns ζ κ Φ Ψ]) H locs → lv_has ls 7 [(3, .int v337), (2, .int v338), (0, .ref ua), (1, .ref wa)] → W p l e (headSpec wqL_agrees rmL_agrees).room s m ([.ref ua, .ref wa] : List Value).toArray below meth c H locs (82 + (6 - n9) * 283) (492 + (6 - n9) * 1698) (MQ below (QzF (dC, dI) [(cyI, .int), (cyB, .byte), (cyO, .object "UndoJourneys$World"), (cyA, .array .int), (cyT, .object "UndoJourneysLaw$Trip"), (cyW, .object "UndoJourneysLaw$World"), (cyZ, .boolean)] (wF [cU cyI cyB cyO ua ub up aw as' pa β υ ω sid τs n, cX cyI cyA cyT wa ks ts kr ta sa ra K mT Ns ζ κ Φ Ψ]) (wF [cU cyI cyB cyO ua ub up aw as' pa β υ ω sid τs n, cX cyI cyA cyT wa ks ts kr ta sa ra K mT Ns ζ κ Φ Ψ]) s.heap.size r) ([.ref ua, .ref wa] : List Value).toArray s 2000 12000 (va_A (wF [cU cyI cyB cyO ua ub up aw as' pa β υ ω sid τs n, cX cyI cyA cyT wa ks ts kr ta sa ra K mT Ns ζ κ Φ Ψ]) s.heap.size)) (F0 m 132 ls []) := by
          intro n9
          induction n9 with
          | zero => intro v337 v338 H locs ls _ hL321; exact (loopM_z hL321).elim
          | succ n9 ih9 =>
            intro v337 v338 H locs ls hn341 hL321 hB hl
            obtain ⟨cv339, hcv339⟩ : ∃ cv : Nat, cv + 0 = 82 + (6 - (n9 + 1)) * 283 := ⟨_, Nat.add_zero _⟩
            obtain ⟨scv339, hscv339⟩ : ∃ cv : Nat, cv + 0 = 492 + (6 - (n9 + 1)) * 1698 := ⟨_, Nat.add_zero _⟩
            rw [← hcv339, ← hscv339]
            obtain ⟨o340, hg322, hL321⟩ := loopM_s hL321
            have hg322 : mL_agrees_L132 fu K mT Ns τs n pa β υ ω sid ζ κ Φ Ψ v337 v338 = some o340 := hg322
            unfold mL_agrees_L132 at hg322
            refine lv_iload_n hx hb dL_agrees_132 rfl (lv_at hl 0 rfl) ?_
            refine lv_aload_n hx hb dL_agrees_133 rfl (lv_at hl 3 rfl) ?_
            refine g_get (C := RX6) (T := TX6) (N := 6) hx hb hts hinX6 hown hK (hB.perm (wperm (L' := [cX cyI cyA cyT wa ks ts kr ta sa ra K mT Ns ζ κ Φ Ψ, cU cyI cyB cyO ua ub up aw as' pa β υ ω sid τs n]) [1, 0] (by decide +kernel) rfl rfl)) 0 rfl rfl 5 rfl hq2 rfl rfl dL_agrees_134 ?_
            refine g_alen hx hb hK (hB.perm (wperm (L' := [cX cyI cyA cyT wa ks ts kr ta sa ra K mT Ns ζ κ Φ Ψ, cU cyI cyB cyO ua ub up aw as' pa β υ ω sid τs n]) [1, 0] (by decide +kernel) rfl rfl)) 2 4 rfl rfl (v := (nI mT)) rfl dL_agrees_137 ?_
            obtain ⟨t342, hD343, hg322⟩ := ob1_s hg322
            have kTt342 : t342 = true → ∀ (H : Heap) (locs : List Loc), Bd (dC, dI) [(cyI, .int), (cyB, .byte), (cyO, .object "UndoJourneys$World"), (cyA, .array .int), (cyT, .object "UndoJourneysLaw$Trip"), (cyW, .object "UndoJourneysLaw$World"), (cyZ, .boolean)] (va_A (wF [cU cyI cyB cyO ua ub up aw as' pa β υ ω sid τs n, cX cyI cyA cyT wa ks ts kr ta sa ra K mT Ns ζ κ Φ Ψ]) s.heap.size) s (wF [cU cyI cyB cyO ua ub up aw as' pa β υ ω sid τs n, cX cyI cyA cyT wa ks ts kr ta sa ra K mT Ns ζ κ Φ Ψ]) H locs → W p l e (headSpec wqL_agrees rmL_agrees).room s m ([.ref ua, .ref wa] : List Value).toArray below meth c H locs (cv339 + 0) (scv339 + 0) (MQ below (QzF (dC, dI) [(cyI, .int), (cyB, .byte), (cyO, .object "UndoJourneys$World"), (cyA, .array .int), (cyT, .object "UndoJourneysLaw$Trip"), (cyW, .object "UndoJourneysLaw$World"), (cyZ, .boolean)] (wF [cU cyI cyB cyO ua ub up aw as' pa β υ ω sid τs n, cX cyI cyA cyT wa ks ts kr ta sa ra K mT Ns ζ κ Φ Ψ]) (wF [cU cyI cyB cyO ua ub up aw as' pa β υ ω sid τs n, cX cyI cyA cyT wa ks ts kr ta sa ra K mT Ns ζ κ Φ Ψ]) s.heap.size r) ([.ref ua, .ref wa] : List Value).toArray s 2000 12000 (va_A (wF [cU cyI cyB cyO ua ub up aw as' pa β υ ω sid τs n, cX cyI cyA cyT wa ks ts kr ta sa ra K mT Ns ζ κ Φ Ψ]) s.heap.size)) (F0 m 145 ls []) := by
              intro ht H locs hB
              have hg322 := cnd_t ht hg322
              refine lv_iconst (v := (0 : Int32)) hx hb dL_agrees_145 (by decide) ?_
              refine lv_istore (lv' := [(4, .int (0 : Int32)), (3, .int v337), (2, .int v338), (0, .ref ua), (1, .ref wa)]) hx hb dL_agrees_146 hl (by decide) rfl (fun ls hl => ?_)
              obtain ⟨v360, hL363, hg322⟩ := ob1_s hg322
              have kE361 : ∀  (H : Heap) (locs : List Loc) (ls : Array Slot), Bd (dC, dI) [(cyI, .int), (cyB, .byte), (cyO, .object "UndoJourneys$World"), (cyA, .array .int), (cyT, .object "UndoJourneysLaw$Trip"), (cyW, .object "UndoJourneysLaw$World"), (cyZ, .boolean)] (va_A (wF [cU cyI cyB cyO ua ub up aw as' pa β υ ω sid τs n, cX cyI cyA cyT wa ks ts kr ta sa ra K mT Ns ζ κ Φ Ψ]) s.heap.size) s (wF [cU cyI cyB cyO ua ub up aw as' pa β υ ω sid τs n, cX cyI cyA cyT wa ks ts kr ta sa ra K mT Ns ζ κ Φ Ψ]) H locs → lv_has ls 7 [(3, .int v337), (2, .int v360), (0, .ref ua), (1, .ref wa)] → W p l e (headSpec wqL_agrees rmL_agrees).room s m ([.ref ua, .ref wa] : List Value).toArray below meth c H locs (cv339 + 16) (scv339 + 96) (MQ below (QzF (dC, dI) [(cyI, .int), (cyB, .byte), (cyO, .object "UndoJourneys$World"), (cyA, .array .int), (cyT, .object "UndoJourneysLaw$Trip"), (cyW, .object "UndoJourneysLaw$World"), (cyZ, .boolean)] (wF [cU cyI cyB cyO ua ub up aw as' pa β υ ω sid τs n, cX cyI cyA cyT wa ks ts kr ta sa ra K mT Ns ζ κ Φ Ψ]) (wF [cU cyI cyB cyO ua ub up aw as' pa β υ ω sid τs n, cX cyI cyA cyT wa ks ts kr ta sa ra K mT Ns ζ κ Φ Ψ]) s.heap.size r) ([.ref ua, .ref wa] : List Value).toArray s 2000 12000 (va_A (wF [cU cyI cyB cyO ua ub up aw as' pa β υ ω sid τs n, cX cyI cyA cyT wa ks ts kr ta sa ra K mT Ns ζ κ Φ Ψ]) s.heap.size)) (F0 m 188 ls []) := by
                intro H locs ls hB hl
                refine lv_aload_n hx hb dL_agrees_188 rfl (lv_at hl 3 rfl) ?_
                refine g_get (C := RX6) (T := TX6) (N := 6) hx hb hts hinX6 hown hK (hB.perm (wperm (L' := [cX cyI cyA cyT wa ks ts kr ta sa ra K mT Ns ζ κ Φ Ψ, cU cyI cyB cyO ua ub up aw as' pa β υ ω sid τs n]) [1, 0] (by decide +kernel) rfl rfl)) 0 rfl rfl 5 rfl hq2 rfl rfl dL_agrees_189 ?_
                refine lv_iload_n hx hb dL_agrees_192 rfl (lv_at hl 0 rfl) ?_
                obtain ⟨j365, e9, hg322⟩ := ob1_s hg322
                obtain ⟨h_j365, e9⟩ := hixn_s e9
                refine g_aaldq hx hb hK (hB.perm (wperm (L' := [cX cyI cyA cyT wa ks ts kr ta sa ra K mT Ns ζ κ Φ Ψ, cU cyI cyB cyO ua ub up aw as' pa β υ ω sid τs n]) [1, 0] (by decide +kernel) rfl rfl)) 2 4 rfl rfl e9 dL_agrees_193 ?_
                refine g_get (C := RX5) (T := TX5) (N := 7) hx hb hts hinX5 hown hK ((hB.perm (wperm (L' := [cX cyI cyA cyT wa ks ts kr ta sa ra K mT Ns ζ κ Φ Ψ, cU cyI cyB cyO ua ub up aw as' pa β υ ω sid τs n]) [1, 0] (by decide +kernel) rfl rfl)).perm (cX_viewr cyI cyA cyT wa ks ts kr ta sa ra K mT Ns ζ κ Φ Ψ h_j365 _)) 0 rfl rfl 6 rfl hq3 rfl rfl dL_agrees_194 ?_
                refine lv_astore (lv' := [(4, .ref (sa j365)), (3, .int v337), (2, .int v360), (0, .ref ua), (1, .ref wa)]) hx hb dL_agrees_197 hl (by decide) rfl (fun ls hl => ?_)
                refine lv_iconst (v := (0 : Int32)) hx hb dL_agrees_199 (by decide) ?_
                refine lv_istore (lv' := [(5, .int (0 : Int32)), (4, .ref (sa j365)), (3, .int v337), (2, .int v360), (0, .ref ua), (1, .ref wa)]) hx hb dL_agrees_200 hl (by decide) rfl (fun ls hl => ?_)
                obtain ⟨v381, hL384, hg322⟩ := ob1_s hg322
                have kE382 : ∀  (H : Heap) (locs : List Loc) (ls : Array Slot), Bd (dC, dI) [(cyI, .int), (cyB, .byte), (cyO, .object "UndoJourneys$World"), (cyA, .array .int), (cyT, .object "UndoJourneysLaw$Trip"), (cyW, .object "UndoJourneysLaw$World"), (cyZ, .boolean)] (va_A (wF [cU cyI cyB cyO ua ub up aw as' pa β υ ω sid τs n, cX cyI cyA cyT wa ks ts kr ta sa ra K mT Ns ζ κ Φ Ψ]) s.heap.size) s (wF [cU cyI cyB cyO ua ub up aw as' pa β υ ω sid τs n, cX cyI cyA cyT wa ks ts kr ta sa ra K mT Ns ζ κ Φ Ψ]) H locs → lv_has ls 7 [(4, .ref (sa j365)), (3, .int v337), (2, .int v381), (0, .ref ua), (1, .ref wa)] → W p l e (headSpec wqL_agrees rmL_agrees).room s m ([.ref ua, .ref wa] : List Value).toArray below meth c H locs (cv339 + 280) (scv339 + 1680) (MQ below (QzF (dC, dI) [(cyI, .int), (cyB, .byte), (cyO, .object "UndoJourneys$World"), (cyA, .array .int), (cyT, .object "UndoJourneysLaw$Trip"), (cyW, .object "UndoJourneysLaw$World"), (cyZ, .boolean)] (wF [cU cyI cyB cyO ua ub up aw as' pa β υ ω sid τs n, cX cyI cyA cyT wa ks ts kr ta sa ra K mT Ns ζ κ Φ Ψ]) (wF [cU cyI cyB cyO ua ub up aw as' pa β υ ω sid τs n, cX cyI cyA cyT wa ks ts kr ta sa ra K mT Ns ζ κ Φ Ψ]) s.heap.size r) ([.ref ua, .ref wa] : List Value).toArray s 2000 12000 (va_A (wF [cU cyI cyB cyO ua ub up aw as' pa β υ ω sid τs n, cX cyI cyA cyT wa ks ts kr ta sa ra K mT Ns ζ κ Φ Ψ]) s.heap.size)) (F0 m 266 ls []) := by
                  intro H locs ls hB hl
                  refine lv_iload_n hx hb dL_agrees_266 rfl (lv_at hl 2 rfl) ?_
                  obtain ⟨v386, hJ388, hg322⟩ := ob1_s hg322
                  have kJ389 : (v386 = 0 ∨ v386 = 1) → ∀ (H : Heap) (locs : List Loc) (ls : Array Slot), Bd (dC, dI) [(cyI, .int), (cyB, .byte), (cyO, .object "UndoJourneys$World"), (cyA, .array .int), (cyT, .object "UndoJourneysLaw$Trip"), (cyW, .object "UndoJourneysLaw$World"), (cyZ, .boolean)] (va_A (wF [cU cyI cyB cyO ua ub up aw as' pa β υ ω sid τs n, cX cyI cyA cyT wa ks ts kr ta sa ra K mT Ns ζ κ Φ Ψ]) s.heap.size) s (wF [cU cyI cyB cyO ua ub up aw as' pa β υ ω sid τs n, cX cyI cyA cyT wa ks ts kr ta sa ra K mT Ns ζ κ Φ Ψ]) H locs → lv_has ls 7 [(3, .int v337), (0, .ref ua), (1, .ref wa)] → W p l e (headSpec wqL_agrees rmL_agrees).room s m ([.ref ua, .ref wa] : List Value).toArray below meth c H locs (cv339 + 283) (scv339 + 1698) (MQ below (QzF (dC, dI) [(cyI, .int), (cyB, .byte), (cyO, .object "UndoJourneys$World"), (cyA, .array .int), (cyT, .object "UndoJourneysLaw$Trip"), (cyW, .object "UndoJourneysLaw$World"), (cyZ, .boolean)] (wF [cU cyI cyB cyO ua ub up aw as' pa β υ ω sid τs n, cX cyI cyA cyT wa ks ts kr ta sa ra K mT Ns ζ κ Φ Ψ]) (wF [cU cyI cyB cyO ua ub up aw as' pa β υ ω sid τs n, cX cyI cyA cyT wa ks ts kr ta sa ra K mT Ns ζ κ Φ Ψ]) s.heap.size r) ([.ref ua, .ref wa] : List Value).toArray s 2000 12000 (va_A (wF [cU cyI cyB cyO ua ub up aw as' pa β υ ω sid τs n, cX cyI cyA cyT wa ks ts kr ta sa ra K mT Ns ζ κ Φ Ψ]) s.heap.size)) (F0 m 290 ls [.int v386]) := by
                    intro z387 H locs ls hB hl
                    refine lv_istore_n (lv' := [(2, .int v386), (3, .int v337), (0, .ref ua), (1, .ref wa)]) hx hb dL_agrees_290 rfl hl (by decide) rfl (fun ls hl => ?_)
                    refine lv_iinc (v := (v337 + (1 : Int32))) (lv' := [(3, .int (v337 + (1 : Int32))), (2, .int v386), (0, .ref ua), (1, .ref wa)]) hx hb dL_agrees_291 hl (k := 1) rfl rfl (by decide) rfl (fun ls hl => ?_)
                    refine lv_goto (tgt := 132) hx hb dL_agrees_294 (by decide) ?_
                    have hL321 := el1_r (inj1 hg322) hL321
                    refine W.widen (k := 82 + (6 - n9) * 283) (n := 492 + (6 - n9) * 1698) (by omega) (by omega) ?_
                    exact ih9 _ _ _ _ _ (by omega) hL321 hB (lv_sub hl [0, 1, 2, 3] rfl)
                  obtain ⟨t390, hD391, hJ388⟩ := ob1_s hJ388
                  have kTt390 : t390 = true → ∀ (H : Heap) (locs : List Loc), Bd (dC, dI) [(cyI, .int), (cyB, .byte), (cyO, .object "UndoJourneys$World"), (cyA, .array .int), (cyT, .object "UndoJourneysLaw$Trip"), (cyW, .object "UndoJourneysLaw$World"), (cyZ, .boolean)] (va_A (wF [cU cyI cyB cyO ua ub up aw as' pa β υ ω sid τs n, cX cyI cyA cyT wa ks ts kr ta sa ra K mT Ns ζ κ Φ Ψ]) s.heap.size) s (wF [cU cyI cyB cyO ua ub up aw as' pa β υ ω sid τs n, cX cyI cyA cyT wa ks ts kr ta sa ra K mT Ns ζ κ Φ Ψ]) H locs → W p l e (headSpec wqL_agrees rmL_agrees).room s m ([.ref ua, .ref wa] : List Value).toArray below meth c H locs (cv339 + 283) (scv339 + 1698) (MQ below (QzF (dC, dI) [(cyI, .int), (cyB, .byte), (cyO, .object "UndoJourneys$World"), (cyA, .array .int), (cyT, .object "UndoJourneysLaw$Trip"), (cyW, .object "UndoJourneysLaw$World"), (cyZ, .boolean)] (wF [cU cyI cyB cyO ua ub up aw as' pa β υ ω sid τs n, cX cyI cyA cyT wa ks ts kr ta sa ra K mT Ns ζ κ Φ Ψ]) (wF [cU cyI cyB cyO ua ub up aw as' pa β υ ω sid τs n, cX cyI cyA cyT wa ks ts kr ta sa ra K mT Ns ζ κ Φ Ψ]) s.heap.size r) ([.ref ua, .ref wa] : List Value).toArray s 2000 12000 (va_A (wF [cU cyI cyB cyO ua ub up aw as' pa β υ ω sid τs n, cX cyI cyA cyT wa ks ts kr ta sa ra K mT Ns ζ κ Φ Ψ]) s.heap.size)) (F0 m 285 ls []) := by
                    intro ht H locs hB
                    have hJ388 := cnd_t ht hJ388
                    refine lv_iconst (v := (1 : Int32)) hx hb dL_agrees_285 (by decide) ?_
                    refine lv_goto (tgt := 290) hx hb dL_agrees_286 (by decide) ?_
                    have e0 := inj1 hJ388
                    subst e0
                    exact kJ389 (Or.inr rfl) _ _ _ hB (lv_sub hl [1, 3, 4] rfl)
                  have kFt390 : t390 = false → ∀ (H : Heap) (locs : List Loc), Bd (dC, dI) [(cyI, .int), (cyB, .byte), (cyO, .object "UndoJourneys$World"), (cyA, .array .int), (cyT, .object "UndoJourneysLaw$Trip"), (cyW, .object "UndoJourneysLaw$World"), (cyZ, .boolean)] (va_A (wF [cU cyI cyB cyO ua ub up aw as' pa β υ ω sid τs n, cX cyI cyA cyT wa ks ts kr ta sa ra K mT Ns ζ κ Φ Ψ]) s.heap.size) s (wF [cU cyI cyB cyO ua ub up aw as' pa β υ ω sid τs n, cX cyI cyA cyT wa ks ts kr ta sa ra K mT Ns ζ κ Φ Ψ]) H locs → W p l e (headSpec wqL_agrees rmL_agrees).room s m ([.ref ua, .ref wa] : List Value).toArray below meth c H locs (cv339 + 283) (scv339 + 1698) (MQ below (QzF (dC, dI) [(cyI, .int), (cyB, .byte), (cyO, .object "UndoJourneys$World"), (cyA, .array .int), (cyT, .object "UndoJourneysLaw$Trip"), (cyW, .object "UndoJourneysLaw$World"), (cyZ, .boolean)] (wF [cU cyI cyB cyO ua ub up aw as' pa β υ ω sid τs n, cX cyI cyA cyT wa ks ts kr ta sa ra K mT Ns ζ κ Φ Ψ]) (wF [cU cyI cyB cyO ua ub up aw as' pa β υ ω sid τs n, cX cyI cyA cyT wa ks ts kr ta sa ra K mT Ns ζ κ Φ Ψ]) s.heap.size r) ([.ref ua, .ref wa] : List Value).toArray s 2000 12000 (va_A (wF [cU cyI cyB cyO ua ub up aw as' pa β υ ω sid τs n, cX cyI cyA cyT wa ks ts kr ta sa ra K mT Ns ζ κ Φ Ψ]) s.heap.size)) (F0 m 289 ls []) := by
                    intro ht H locs hB
                    have hJ388 := cnd_f ht hJ388
                    refine lv_iconst (v := (0 : Int32)) hx hb dL_agrees_289 (by decide) ?_
                    have e0 := inj1 hJ388
                    subst e0
                    exact kJ389 (Or.inl rfl) _ _ _ hB (lv_sub hl [1, 3, 4] rfl)
                  refine lv_if_eq (tgt := 289) hx hb dL_agrees_267 (by decide) (fun c392 => ?_) (fun c392 => ?_)
                  · have hD391 := ite_t c392 hD391
                    have e0 := inj1 hD391
                    refine W.widen (k := (cv339 + 283)) (n := (scv339 + 1698)) (by omega) (by omega) ?_
                    exact kFt390 e0.symm _ _ hB
                  · have hD391 := ite_f c392 hD391
                    refine lv_aload_n hx hb dL_agrees_270 rfl (lv_at hl 3 rfl) ?_
                    refine lv_iload_n hx hb dL_agrees_271 rfl (lv_at hl 1 rfl) ?_
                    refine lv_aload hx hb dL_agrees_272 (lv_at hl 0 rfl) ?_
                    refine g_alen hx hb hK ((hB.perm (wperm (L' := [cX cyI cyA cyT wa ks ts kr ta sa ra K mT Ns ζ κ Φ Ψ, cU cyI cyB cyO ua ub up aw as' pa β υ ω sid τs n]) [1, 0] (by decide +kernel) rfl rfl)).perm (cX_viewr cyI cyA cyT wa ks ts kr ta sa ra K mT Ns ζ κ Φ Ψ h_j365 _)) 1 3 rfl rfl (v := (nI (Ns j365))) rfl dL_agrees_274 ?_
                    refine lv_bipush (v := (9 : Int32)) hx hb dL_agrees_275 (by decide) ?_
                    obtain ⟨o393, hc, hD391⟩ := ob1_s hD391
                    obtain ⟨hc, hE9⟩ := hEl_s hc
                    obtain ⟨r394, er9, hD391⟩ := ob1_s hD391
                    have er9 := inj1 er9
                    refine e_Wi (S := Unit) (As := [.ref ua, .int v337, .int (nI (Ns j365)), .int (9 : Int32)]) (rest := []) (wc := cU cyI cyB cyO ua ub up aw as' pa β υ ω sid τs n) (wr := (wF [cX cyI cyA cyT wa ks ts kr ta sa ra K mT Ns ζ κ Φ Ψ])) (w1 := fun _ => xU (cU cyI cyB cyO ua ub up aw as' pa β υ ω sid τs n) (fun x => (cU cyI cyB cyO ua ub up aw as' pa β υ ω sid τs n)) o393) ⟨hx, hb, hml, hown, hts⟩ (kL_step l hl0 dC dI cyI cyB cyO cyA cyT cyW cyZ ua ub up aw as' kS H.size hc hE9) (vx_cwSW 4 hts (gv_L_step_197 hgb) rfl rfl rfl (by decide +kernel) ⟨(Nat.le_of_ble_eq_true rfl), (Nat.le_of_ble_eq_true rfl)⟩) (epre_left hEV (hB.perm (wperm (L' := [cU cyI cyB cyO ua ub up aw as' pa β υ ω sid τs n, cX cyI cyA cyT wa ks ts kr ta sa ra K mT Ns ζ κ Φ Ψ]) [0, 1] (by decide +kernel) rfl rfl)) hA hK [.ref ua, .int v337, .int (nI (Ns j365)), .int (9 : Int32)]) hB hA (wperm (L' := [cU cyI cyB cyO ua ub up aw as' pa β υ ω sid τs n, cX cyI cyA cyT wa ks ts kr ta sa ra K mT Ns ζ κ Φ Ψ]) [0, 1] (by decide +kernel) rfl rfl) rfl hl.1 rfl (Nat.le_of_ble_eq_true rfl) dL_agrees_277 ⟨by show _ ≤ 2000; omega, by show _ ≤ 12000; omega⟩ (fun r9 _ H locs hr9 hB => ?_)
                    rw [hr9, er9]
                    rw [xU_same (cU cyI cyB cyO ua ub up aw as' pa β υ ω sid τs n) o393] at hB
                    have hB := hB.perm wF_un1
                    have hB := hB.perm (wperm (L' := [cU cyI cyB cyO ua ub up aw as' pa β υ ω sid τs n, cX cyI cyA cyT wa ks ts kr ta sa ra K mT Ns ζ κ Φ Ψ]) [0, 1] (by decide +kernel) rfl rfl)
                    refine lv_ldc (v := (-2000000100 : Int32)) hx hb hown hq4 dL_agrees_280 ?_
                    refine lv_icmp_ne (tgt := 289) hx hb dL_agrees_282 (by decide) (fun c395 => ?_) (fun c395 => ?_)
                    · have hD391 := ite_f c395 hD391
                      have e0 := inj1 hD391
                      exact kFt390 e0.symm _ _ hB
                    · have hD391 := ite_t c395 hD391
                      have e0 := inj1 hD391
                      exact kTt390 e0.symm _ _ hB
                have key383 : ∀ (n9 : Nat) (v397 : Int32) (v398 : Int32)  (H : Heap) (locs : List Loc) (ls : Array Slot), n9 ≤ 11 → loopM (fun st => mL_agrees_L202 fu K mT Ns j365 v337 τs n pa β υ ω sid ζ κ Φ Ψ st.1 st.2) n9 (v397, v398) = some v381 → Bd (dC, dI) [(cyI, .int), (cyB, .byte), (cyO, .object "UndoJourneys$World"), (cyA, .array .int), (cyT, .object "UndoJourneysLaw$Trip"), (cyW, .object "UndoJourneysLaw$World"), (cyZ, .boolean)] (va_A (wF [cU cyI cyB cyO ua ub up aw as' pa β υ ω sid τs n, cX cyI cyA cyT wa ks ts kr ta sa ra K mT Ns ζ κ Φ Ψ]) s.heap.size) s (wF [cU cyI cyB cyO ua ub up aw as' pa β υ ω sid τs n, cX cyI cyA cyT wa ks ts kr ta sa ra K mT Ns ζ κ Φ Ψ]) H locs → lv_has ls 7 [(5, .int v397), (4, .ref (sa j365)), (3, .int v337), (2, .int v398), (0, .ref ua), (1, .ref wa)] → W p l e (headSpec wqL_agrees rmL_agrees).room s m ([.ref ua, .ref wa] : List Value).toArray below meth c H locs ((cv339 + 16) + (11 - n9) * 24) ((scv339 + 96) + (11 - n9) * 144) (MQ below (QzF (dC, dI) [(cyI, .int), (cyB, .byte), (cyO, .object "UndoJourneys$World"), (cyA, .array .int), (cyT, .object "UndoJourneysLaw$Trip"), (cyW, .object "UndoJourneysLaw$World"), (cyZ, .boolean)] (wF [cU cyI cyB cyO ua ub up aw as' pa β υ ω sid τs n, cX cyI cyA cyT wa ks ts kr ta sa ra K mT Ns ζ κ Φ Ψ]) (wF [cU cyI cyB cyO ua ub up aw as' pa β υ ω sid τs n, cX cyI cyA cyT wa ks ts kr ta sa ra K mT Ns ζ κ Φ Ψ]) s.heap.size r) ([.ref ua, .ref wa] : List Value).toArray s 2000 12000 (va_A (wF [cU cyI cyB cyO ua ub up aw as' pa β υ ω sid τs n, cX cyI cyA cyT wa ks ts kr ta sa ra K mT Ns ζ κ Φ Ψ]) s.heap.size)) (F0 m 202 ls []) := by
                  intro n9
                  induction n9 with
                  | zero => intro v397 v398 H locs ls _ hL384; exact (loopM_z hL384).elim
                  | succ n9 ih9 =>
                    intro v397 v398 H locs ls hn401 hL384 hB hl
                    obtain ⟨cv399, hcv399⟩ : ∃ cv : Nat, cv + 0 = (cv339 + 16) + (11 - (n9 + 1)) * 24 := ⟨_, Nat.add_zero _⟩
                    obtain ⟨scv399, hscv399⟩ : ∃ cv : Nat, cv + 0 = (scv339 + 96) + (11 - (n9 + 1)) * 144 := ⟨_, Nat.add_zero _⟩
                    rw [← hcv399, ← hscv399]
                    obtain ⟨o400, hg385, hL384⟩ := loopM_s hL384
                    have hg385 : mL_agrees_L202 fu K mT Ns j365 v337 τs n pa β υ ω sid ζ κ Φ Ψ v397 v398 = some o400 := hg385
                    unfold mL_agrees_L202 at hg385
                    refine lv_iload hx hb dL_agrees_202 (lv_at hl 0 rfl) ?_
                    refine lv_aload hx hb dL_agrees_204 (lv_at hl 1 rfl) ?_
                    refine g_alen hx hb hK ((hB.perm (wperm (L' := [cX cyI cyA cyT wa ks ts kr ta sa ra K mT Ns ζ κ Φ Ψ, cU cyI cyB cyO ua ub up aw as' pa β υ ω sid τs n]) [1, 0] (by decide +kernel) rfl rfl)).perm (cX_viewr cyI cyA cyT wa ks ts kr ta sa ra K mT Ns ζ κ Φ Ψ h_j365 _)) 1 3 rfl rfl (v := (nI (Ns j365))) rfl dL_agrees_206 ?_
                    obtain ⟨t402, hD403, hg385⟩ := ob1_s hg385
                    have kTt402 : t402 = true → ∀ (H : Heap) (locs : List Loc), Bd (dC, dI) [(cyI, .int), (cyB, .byte), (cyO, .object "UndoJourneys$World"), (cyA, .array .int), (cyT, .object "UndoJourneysLaw$Trip"), (cyW, .object "UndoJourneysLaw$World"), (cyZ, .boolean)] (va_A (wF [cU cyI cyB cyO ua ub up aw as' pa β υ ω sid τs n, cX cyI cyA cyT wa ks ts kr ta sa ra K mT Ns ζ κ Φ Ψ]) s.heap.size) s (wF [cU cyI cyB cyO ua ub up aw as' pa β υ ω sid τs n, cX cyI cyA cyT wa ks ts kr ta sa ra K mT Ns ζ κ Φ Ψ]) H locs → W p l e (headSpec wqL_agrees rmL_agrees).room s m ([.ref ua, .ref wa] : List Value).toArray below meth c H locs (cv399 + 0) (scv399 + 0) (MQ below (QzF (dC, dI) [(cyI, .int), (cyB, .byte), (cyO, .object "UndoJourneys$World"), (cyA, .array .int), (cyT, .object "UndoJourneysLaw$Trip"), (cyW, .object "UndoJourneysLaw$World"), (cyZ, .boolean)] (wF [cU cyI cyB cyO ua ub up aw as' pa β υ ω sid τs n, cX cyI cyA cyT wa ks ts kr ta sa ra K mT Ns ζ κ Φ Ψ]) (wF [cU cyI cyB cyO ua ub up aw as' pa β υ ω sid τs n, cX cyI cyA cyT wa ks ts kr ta sa ra K mT Ns ζ κ Φ Ψ]) s.heap.size r) ([.ref ua, .ref wa] : List Value).toArray s 2000 12000 (va_A (wF [cU cyI cyB cyO ua ub up aw as' pa β υ ω sid τs n, cX cyI cyA cyT wa ks ts kr ta sa ra K mT Ns ζ κ Φ Ψ]) s.heap.size)) (F0 m 214 ls []) := by
                      intro ht H locs hB
                      have hg385 := cnd_t ht hg385
                      refine lv_iconst (v := (0 : Int32)) hx hb dL_agrees_214 (by decide) ?_
                      refine lv_istore (lv' := [(6, .int (0 : Int32)), (5, .int v397), (4, .ref (sa j365)), (3, .int v337), (2, .int v398), (0, .ref ua), (1, .ref wa)]) hx hb dL_agrees_215 hl (by decide) rfl (fun ls hl => ?_)
                      obtain ⟨v422, hL425, hg385⟩ := ob1_s hg385
                      have kE423 : ∀  (H : Heap) (locs : List Loc) (ls : Array Slot), Bd (dC, dI) [(cyI, .int), (cyB, .byte), (cyO, .object "UndoJourneys$World"), (cyA, .array .int), (cyT, .object "UndoJourneysLaw$Trip"), (cyW, .object "UndoJourneysLaw$World"), (cyZ, .boolean)] (va_A (wF [cU cyI cyB cyO ua ub up aw as' pa β υ ω sid τs n, cX cyI cyA cyT wa ks ts kr ta sa ra K mT Ns ζ κ Φ Ψ]) s.heap.size) s (wF [cU cyI cyB cyO ua ub up aw as' pa β υ ω sid τs n, cX cyI cyA cyT wa ks ts kr ta sa ra K mT Ns ζ κ Φ Ψ]) H locs → lv_has ls 7 [(5, .int v397), (4, .ref (sa j365)), (3, .int v337), (2, .int v422), (0, .ref ua), (1, .ref wa)] → W p l e (headSpec wqL_agrees rmL_agrees).room s m ([.ref ua, .ref wa] : List Value).toArray below meth c H locs (cv399 + 24) (scv399 + 144) (MQ below (QzF (dC, dI) [(cyI, .int), (cyB, .byte), (cyO, .object "UndoJourneys$World"), (cyA, .array .int), (cyT, .object "UndoJourneysLaw$Trip"), (cyW, .object "UndoJourneysLaw$World"), (cyZ, .boolean)] (wF [cU cyI cyB cyO ua ub up aw as' pa β υ ω sid τs n, cX cyI cyA cyT wa ks ts kr ta sa ra K mT Ns ζ κ Φ Ψ]) (wF [cU cyI cyB cyO ua ub up aw as' pa β υ ω sid τs n, cX cyI cyA cyT wa ks ts kr ta sa ra K mT Ns ζ κ Φ Ψ]) s.heap.size r) ([.ref ua, .ref wa] : List Value).toArray s 2000 12000 (va_A (wF [cU cyI cyB cyO ua ub up aw as' pa β υ ω sid τs n, cX cyI cyA cyT wa ks ts kr ta sa ra K mT Ns ζ κ Φ Ψ]) s.heap.size)) (F0 m 260 ls []) := by
                        intro H locs ls hB hl
                        refine lv_iinc (v := (v397 + (1 : Int32))) (lv' := [(5, .int (v397 + (1 : Int32))), (4, .ref (sa j365)), (3, .int v337), (2, .int v422), (0, .ref ua), (1, .ref wa)]) hx hb dL_agrees_260 hl (k := 0) rfl rfl (by decide) rfl (fun ls hl => ?_)
                        refine lv_goto (tgt := 202) hx hb dL_agrees_263 (by decide) ?_
                        have hL384 := el1_r (inj1 hg385) hL384
                        refine W.widen (k := (cv339 + 16) + (11 - n9) * 24) (n := (scv339 + 96) + (11 - n9) * 144) (by omega) (by omega) ?_
                        exact ih9 _ _ _ _ _ (by omega) hL384 hB (lv_sub hl [0, 1, 2, 3, 4, 5] rfl)
                      have key424 : ∀ (n9 : Nat) (v428 : Int32) (v429 : Int32)  (H : Heap) (locs : List Loc) (ls : Array Slot), n9 ≤ 8 → loopM (fun st => mL_agrees_L217 fu K mT Ns v397 j365 v337 τs n pa β υ ω sid ζ κ Φ Ψ st.1 st.2) n9 (v428, v429) = some v422 → Bd (dC, dI) [(cyI, .int), (cyB, .byte), (cyO, .object "UndoJourneys$World"), (cyA, .array .int), (cyT, .object "UndoJourneysLaw$Trip"), (cyW, .object "UndoJourneysLaw$World"), (cyZ, .boolean)] (va_A (wF [cU cyI cyB cyO ua ub up aw as' pa β υ ω sid τs n, cX cyI cyA cyT wa ks ts kr ta sa ra K mT Ns ζ κ Φ Ψ]) s.heap.size) s (wF [cU cyI cyB cyO ua ub up aw as' pa β υ ω sid τs n, cX cyI cyA cyT wa ks ts kr ta sa ra K mT Ns ζ κ Φ Ψ]) H locs → lv_has ls 7 [(6, .int v428), (5, .int v397), (4, .ref (sa j365)), (3, .int v337), (2, .int v429), (0, .ref ua), (1, .ref wa)] → W p l e (headSpec wqL_agrees rmL_agrees).room s m ([.ref ua, .ref wa] : List Value).toArray below meth c H locs ((cv399 + 0) + (8 - n9) * 3) ((scv399 + 0) + (8 - n9) * 18) (MQ below (QzF (dC, dI) [(cyI, .int), (cyB, .byte), (cyO, .object "UndoJourneys$World"), (cyA, .array .int), (cyT, .object "UndoJourneysLaw$Trip"), (cyW, .object "UndoJourneysLaw$World"), (cyZ, .boolean)] (wF [cU cyI cyB cyO ua ub up aw as' pa β υ ω sid τs n, cX cyI cyA cyT wa ks ts kr ta sa ra K mT Ns ζ κ Φ Ψ]) (wF [cU cyI cyB cyO ua ub up aw as' pa β υ ω sid τs n, cX cyI cyA cyT wa ks ts kr ta sa ra K mT Ns ζ κ Φ Ψ]) s.heap.size r) ([.ref ua, .ref wa] : List Value).toArray s 2000 12000 (va_A (wF [cU cyI cyB cyO ua ub up aw as' pa β υ ω sid τs n, cX cyI cyA cyT wa ks ts kr ta sa ra K mT Ns ζ κ Φ Ψ]) s.heap.size)) (F0 m 217 ls []) := by
                        intro n9
                        induction n9 with
                        | zero => intro v428 v429 H locs ls _ hL425; exact (loopM_z hL425).elim
                        | succ n9 ih9 =>
                          intro v428 v429 H locs ls hn432 hL425 hB hl
                          obtain ⟨cv430, hcv430⟩ : ∃ cv : Nat, cv + 0 = (cv399 + 0) + (8 - (n9 + 1)) * 3 := ⟨_, Nat.add_zero _⟩
                          obtain ⟨scv430, hscv430⟩ : ∃ cv : Nat, cv + 0 = (scv399 + 0) + (8 - (n9 + 1)) * 18 := ⟨_, Nat.add_zero _⟩
                          rw [← hcv430, ← hscv430]
                          obtain ⟨o431, hg426, hL425⟩ := loopM_s hL425
                          have hg426 : mL_agrees_L217 fu K mT Ns v397 j365 v337 τs n pa β υ ω sid ζ κ Φ Ψ v428 v429 = some o431 := hg426
                          unfold mL_agrees_L217 at hg426
                          refine lv_iload hx hb dL_agrees_217 (lv_at hl 0 rfl) ?_
                          refine lv_bipush (v := (7 : Int32)) hx hb dL_agrees_219 (by decide) ?_
                          obtain ⟨t433, hD434, hg426⟩ := ob1_s hg426
                          have kTt433 : t433 = true → ∀ (H : Heap) (locs : List Loc), Bd (dC, dI) [(cyI, .int), (cyB, .byte), (cyO, .object "UndoJourneys$World"), (cyA, .array .int), (cyT, .object "UndoJourneysLaw$Trip"), (cyW, .object "UndoJourneysLaw$World"), (cyZ, .boolean)] (va_A (wF [cU cyI cyB cyO ua ub up aw as' pa β υ ω sid τs n, cX cyI cyA cyT wa ks ts kr ta sa ra K mT Ns ζ κ Φ Ψ]) s.heap.size) s (wF [cU cyI cyB cyO ua ub up aw as' pa β υ ω sid τs n, cX cyI cyA cyT wa ks ts kr ta sa ra K mT Ns ζ κ Φ Ψ]) H locs → W p l e (headSpec wqL_agrees rmL_agrees).room s m ([.ref ua, .ref wa] : List Value).toArray below meth c H locs (cv430 + 0) (scv430 + 0) (MQ below (QzF (dC, dI) [(cyI, .int), (cyB, .byte), (cyO, .object "UndoJourneys$World"), (cyA, .array .int), (cyT, .object "UndoJourneysLaw$Trip"), (cyW, .object "UndoJourneysLaw$World"), (cyZ, .boolean)] (wF [cU cyI cyB cyO ua ub up aw as' pa β υ ω sid τs n, cX cyI cyA cyT wa ks ts kr ta sa ra K mT Ns ζ κ Φ Ψ]) (wF [cU cyI cyB cyO ua ub up aw as' pa β υ ω sid τs n, cX cyI cyA cyT wa ks ts kr ta sa ra K mT Ns ζ κ Φ Ψ]) s.heap.size r) ([.ref ua, .ref wa] : List Value).toArray s 2000 12000 (va_A (wF [cU cyI cyB cyO ua ub up aw as' pa β υ ω sid τs n, cX cyI cyA cyT wa ks ts kr ta sa ra K mT Ns ζ κ Φ Ψ]) s.heap.size)) (F0 m 228 ls []) := by
                            intro ht H locs hB
                            have hg426 := cnd_t ht hg426
                            refine lv_aload_n hx hb dL_agrees_228 rfl (lv_at hl 5 rfl) ?_
                            refine lv_iload_n hx hb dL_agrees_229 rfl (lv_at hl 3 rfl) ?_
                            refine lv_iload hx hb dL_agrees_230 (lv_at hl 1 rfl) ?_
                            refine lv_iload hx hb dL_agrees_232 (lv_at hl 0 rfl) ?_
                            obtain ⟨o437, hc, hg426⟩ := ob1_s hg426
                            obtain ⟨hc, hE9⟩ := hEl_s hc
                            obtain ⟨r438, er9, hg426⟩ := ob1_s hg426
                            have er9 := inj1 er9
                            refine e_Wi (S := Unit) (As := [.ref ua, .int v337, .int v397, .int v428]) (rest := []) (wc := cU cyI cyB cyO ua ub up aw as' pa β υ ω sid τs n) (wr := (wF [cX cyI cyA cyT wa ks ts kr ta sa ra K mT Ns ζ κ Φ Ψ])) (w1 := fun _ => xU (cU cyI cyB cyO ua ub up aw as' pa β υ ω sid τs n) (fun x => (cU cyI cyB cyO ua ub up aw as' pa β υ ω sid τs n)) o437) ⟨hx, hb, hml, hown, hts⟩ (kL_step l hl0 dC dI cyI cyB cyO cyA cyT cyW cyZ ua ub up aw as' kS H.size hc hE9) (vx_cwSW 4 hts (gv_L_step_197 hgb) rfl rfl rfl (by decide +kernel) ⟨(Nat.le_of_ble_eq_true rfl), (Nat.le_of_ble_eq_true rfl)⟩) (epre_left hEV (hB.perm (wperm (L' := [cU cyI cyB cyO ua ub up aw as' pa β υ ω sid τs n, cX cyI cyA cyT wa ks ts kr ta sa ra K mT Ns ζ κ Φ Ψ]) [0, 1] (by decide +kernel) rfl rfl)) hA hK [.ref ua, .int v337, .int v397, .int v428]) hB hA (wperm (L' := [cU cyI cyB cyO ua ub up aw as' pa β υ ω sid τs n, cX cyI cyA cyT wa ks ts kr ta sa ra K mT Ns ζ κ Φ Ψ]) [0, 1] (by decide +kernel) rfl rfl) rfl hl.1 rfl (Nat.le_of_ble_eq_true rfl) dL_agrees_234 ⟨by show _ ≤ 2000; omega, by show _ ≤ 12000; omega⟩ (fun r9 _ H locs hr9 hB => ?_)
                            rw [hr9, er9]
                            rw [xU_same (cU cyI cyB cyO ua ub up aw as' pa β υ ω sid τs n) o437] at hB
                            have hB := hB.perm wF_un1
                            have hB := hB.perm (wperm (L' := [cU cyI cyB cyO ua ub up aw as' pa β υ ω sid τs n, cX cyI cyA cyT wa ks ts kr ta sa ra K mT Ns ζ κ Φ Ψ]) [0, 1] (by decide +kernel) rfl rfl)
                            refine lv_aload hx hb dL_agrees_237 (lv_at hl 2 rfl) ?_
                            refine lv_iload hx hb dL_agrees_239 (lv_at hl 1 rfl) ?_
                            obtain ⟨j439, e9, hg426⟩ := ob1_s hg426
                            obtain ⟨h_j439, e9⟩ := hixn_s e9
                            refine g_aald hx hb hK ((hB.perm (wperm (L' := [cX cyI cyA cyT wa ks ts kr ta sa ra K mT Ns ζ κ Φ Ψ, cU cyI cyB cyO ua ub up aw as' pa β υ ω sid τs n]) [1, 0] (by decide +kernel) rfl rfl)).perm (cX_viewr cyI cyA cyT wa ks ts kr ta sa ra K mT Ns ζ κ Φ Ψ h_j365 _)) 1 3 rfl rfl e9 dL_agrees_241 ?_
                            refine lv_iload hx hb dL_agrees_242 (lv_at hl 0 rfl) ?_
                            obtain ⟨x440, e9, hg426⟩ := ob1_s hg426
                            refine g_iald hx hb hK ((hB.perm (wperm (L' := [cX cyI cyA cyT wa ks ts kr ta sa ra K mT Ns ζ κ Φ Ψ, cU cyI cyB cyO ua ub up aw as' pa β υ ω sid τs n]) [1, 0] (by decide +kernel) rfl rfl)).perm (cX_viewr cyI cyA cyT wa ks ts kr ta sa ra K mT Ns ζ κ Φ Ψ h_j365 _)) (2 + j439) 0 (cT_row cyI cyA (ta j365) (sa j365) (ra j365) (Ns j365) (Φ j365) (Ψ j365) _ h_j439) rfl (rd_s e9) dL_agrees_244 ?_
                            obtain ⟨v441, hJ443, hg426⟩ := ob1_s hg426
                            have kJ444 : (v441 = 0 ∨ v441 = 1) → ∀ (H : Heap) (locs : List Loc) (ls : Array Slot), Bd (dC, dI) [(cyI, .int), (cyB, .byte), (cyO, .object "UndoJourneys$World"), (cyA, .array .int), (cyT, .object "UndoJourneysLaw$Trip"), (cyW, .object "UndoJourneysLaw$World"), (cyZ, .boolean)] (va_A (wF [cU cyI cyB cyO ua ub up aw as' pa β υ ω sid τs n, cX cyI cyA cyT wa ks ts kr ta sa ra K mT Ns ζ κ Φ Ψ]) s.heap.size) s (wF [cU cyI cyB cyO ua ub up aw as' pa β υ ω sid τs n, cX cyI cyA cyT wa ks ts kr ta sa ra K mT Ns ζ κ Φ Ψ]) H locs → lv_has ls 7 [(6, .int v428), (5, .int v397), (4, .ref (sa j365)), (3, .int v337), (0, .ref ua), (1, .ref wa)] → W p l e (headSpec wqL_agrees rmL_agrees).room s m ([.ref ua, .ref wa] : List Value).toArray below meth c H locs (cv430 + 3) (scv430 + 18) (MQ below (QzF (dC, dI) [(cyI, .int), (cyB, .byte), (cyO, .object "UndoJourneys$World"), (cyA, .array .int), (cyT, .object "UndoJourneysLaw$Trip"), (cyW, .object "UndoJourneysLaw$World"), (cyZ, .boolean)] (wF [cU cyI cyB cyO ua ub up aw as' pa β υ ω sid τs n, cX cyI cyA cyT wa ks ts kr ta sa ra K mT Ns ζ κ Φ Ψ]) (wF [cU cyI cyB cyO ua ub up aw as' pa β υ ω sid τs n, cX cyI cyA cyT wa ks ts kr ta sa ra K mT Ns ζ κ Φ Ψ]) s.heap.size r) ([.ref ua, .ref wa] : List Value).toArray s 2000 12000 (va_A (wF [cU cyI cyB cyO ua ub up aw as' pa β υ ω sid τs n, cX cyI cyA cyT wa ks ts kr ta sa ra K mT Ns ζ κ Φ Ψ]) s.heap.size)) (F0 m 253 ls [.int v441]) := by
                              intro z442 H locs ls hB hl
                              refine lv_istore_n (lv' := [(2, .int v441), (6, .int v428), (5, .int v397), (4, .ref (sa j365)), (3, .int v337), (0, .ref ua), (1, .ref wa)]) hx hb dL_agrees_253 rfl hl (by decide) rfl (fun ls hl => ?_)
                              refine lv_iinc (v := (v428 + (1 : Int32))) (lv' := [(6, .int (v428 + (1 : Int32))), (2, .int v441), (5, .int v397), (4, .ref (sa j365)), (3, .int v337), (0, .ref ua), (1, .ref wa)]) hx hb dL_agrees_254 hl (k := 1) rfl rfl (by decide) rfl (fun ls hl => ?_)
                              refine lv_goto (tgt := 217) hx hb dL_agrees_257 (by decide) ?_
                              have hL425 := el1_r (inj1 hg426) hL425
                              refine W.widen (k := (cv399 + 0) + (8 - n9) * 3) (n := (scv399 + 0) + (8 - n9) * 18) (by omega) (by omega) ?_
                              exact ih9 _ _ _ _ _ (by omega) hL425 hB (lv_sub hl [0, 2, 3, 4, 1, 5, 6] rfl)
                            refine lv_icmp_ne (tgt := 252) hx hb dL_agrees_245 (by decide) (fun c445 => ?_) (fun c445 => ?_)
                            · have hJ443 := ite_f c445 hJ443
                              refine lv_iconst (v := (0 : Int32)) hx hb dL_agrees_252 (by decide) ?_
                              have e0 := inj1 hJ443
                              subst e0
                              exact kJ444 (Or.inl rfl) _ _ _ hB (lv_sub hl [0, 1, 2, 3, 5, 6] rfl)
                            · have hJ443 := ite_t c445 hJ443
                              refine lv_iconst (v := (1 : Int32)) hx hb dL_agrees_248 (by decide) ?_
                              refine lv_goto (tgt := 253) hx hb dL_agrees_249 (by decide) ?_
                              have e0 := inj1 hJ443
                              subst e0
                              exact kJ444 (Or.inr rfl) _ _ _ hB (lv_sub hl [0, 1, 2, 3, 5, 6] rfl)
                          have kFt433 : t433 = false → ∀ (H : Heap) (locs : List Loc), Bd (dC, dI) [(cyI, .int), (cyB, .byte), (cyO, .object "UndoJourneys$World"), (cyA, .array .int), (cyT, .object "UndoJourneysLaw$Trip"), (cyW, .object "UndoJourneysLaw$World"), (cyZ, .boolean)] (va_A (wF [cU cyI cyB cyO ua ub up aw as' pa β υ ω sid τs n, cX cyI cyA cyT wa ks ts kr ta sa ra K mT Ns ζ κ Φ Ψ]) s.heap.size) s (wF [cU cyI cyB cyO ua ub up aw as' pa β υ ω sid τs n, cX cyI cyA cyT wa ks ts kr ta sa ra K mT Ns ζ κ Φ Ψ]) H locs → W p l e (headSpec wqL_agrees rmL_agrees).room s m ([.ref ua, .ref wa] : List Value).toArray below meth c H locs (cv430 + 0) (scv430 + 0) (MQ below (QzF (dC, dI) [(cyI, .int), (cyB, .byte), (cyO, .object "UndoJourneys$World"), (cyA, .array .int), (cyT, .object "UndoJourneysLaw$Trip"), (cyW, .object "UndoJourneysLaw$World"), (cyZ, .boolean)] (wF [cU cyI cyB cyO ua ub up aw as' pa β υ ω sid τs n, cX cyI cyA cyT wa ks ts kr ta sa ra K mT Ns ζ κ Φ Ψ]) (wF [cU cyI cyB cyO ua ub up aw as' pa β υ ω sid τs n, cX cyI cyA cyT wa ks ts kr ta sa ra K mT Ns ζ κ Φ Ψ]) s.heap.size r) ([.ref ua, .ref wa] : List Value).toArray s 2000 12000 (va_A (wF [cU cyI cyB cyO ua ub up aw as' pa β υ ω sid τs n, cX cyI cyA cyT wa ks ts kr ta sa ra K mT Ns ζ κ Φ Ψ]) s.heap.size)) (F0 m 260 ls []) := by
                            intro ht H locs hB
                            have hg426 := cnd_f ht hg426
                            have hL425 := el1_l (inj1 hg426) hL425
                            refine W.widen (k := (cv399 + 24)) (n := (scv399 + 144)) (by omega) (by omega) ?_
                            have e0 := inj1 hL425
                            subst e0
                            exact kE423 _ _ _ hB (lv_sub hl [1, 2, 3, 4, 5, 6] rfl)
                          refine lv_icmp_ge (tgt := 260) hx hb dL_agrees_221 (by decide) (fun c435 => ?_) (fun c435 => ?_)
                          · have hD434 := ite_t c435 hD434
                            have e0 := inj1 hD434
                            exact kFt433 e0.symm _ _ hB
                          · have hD434 := ite_f c435 hD434
                            refine lv_iload_n hx hb dL_agrees_224 rfl (lv_at hl 4 rfl) ?_
                            refine lv_if_eq (tgt := 260) hx hb dL_agrees_225 (by decide) (fun c436 => ?_) (fun c436 => ?_)
                            · have hD434 := ite_t c436 hD434
                              have e0 := inj1 hD434
                              exact kFt433 e0.symm _ _ hB
                            · have hD434 := ite_f c436 hD434
                              have e0 := inj1 hD434
                              exact kTt433 e0.symm _ _ hB
                      refine W.widen (k := (cv399 + 0) + (8 - 8) * 3) (n := (scv399 + 0) + (8 - 8) * 18) (by omega) (by omega) ?_
                      exact key424 8 _ _ _ _ _ (Nat.le_refl _) hL425 hB (lv_sub hl [0, 1, 2, 3, 4, 5, 6] rfl)
                    have kFt402 : t402 = false → ∀ (H : Heap) (locs : List Loc), Bd (dC, dI) [(cyI, .int), (cyB, .byte), (cyO, .object "UndoJourneys$World"), (cyA, .array .int), (cyT, .object "UndoJourneysLaw$Trip"), (cyW, .object "UndoJourneysLaw$World"), (cyZ, .boolean)] (va_A (wF [cU cyI cyB cyO ua ub up aw as' pa β υ ω sid τs n, cX cyI cyA cyT wa ks ts kr ta sa ra K mT Ns ζ κ Φ Ψ]) s.heap.size) s (wF [cU cyI cyB cyO ua ub up aw as' pa β υ ω sid τs n, cX cyI cyA cyT wa ks ts kr ta sa ra K mT Ns ζ κ Φ Ψ]) H locs → W p l e (headSpec wqL_agrees rmL_agrees).room s m ([.ref ua, .ref wa] : List Value).toArray below meth c H locs (cv399 + 0) (scv399 + 0) (MQ below (QzF (dC, dI) [(cyI, .int), (cyB, .byte), (cyO, .object "UndoJourneys$World"), (cyA, .array .int), (cyT, .object "UndoJourneysLaw$Trip"), (cyW, .object "UndoJourneysLaw$World"), (cyZ, .boolean)] (wF [cU cyI cyB cyO ua ub up aw as' pa β υ ω sid τs n, cX cyI cyA cyT wa ks ts kr ta sa ra K mT Ns ζ κ Φ Ψ]) (wF [cU cyI cyB cyO ua ub up aw as' pa β υ ω sid τs n, cX cyI cyA cyT wa ks ts kr ta sa ra K mT Ns ζ κ Φ Ψ]) s.heap.size r) ([.ref ua, .ref wa] : List Value).toArray s 2000 12000 (va_A (wF [cU cyI cyB cyO ua ub up aw as' pa β υ ω sid τs n, cX cyI cyA cyT wa ks ts kr ta sa ra K mT Ns ζ κ Φ Ψ]) s.heap.size)) (F0 m 266 ls []) := by
                      intro ht H locs hB
                      have hg385 := cnd_f ht hg385
                      have hL384 := el1_l (inj1 hg385) hL384
                      refine W.widen (k := (cv339 + 280)) (n := (scv339 + 1680)) (by omega) (by omega) ?_
                      have e0 := inj1 hL384
                      subst e0
                      exact kE382 _ _ _ hB (lv_sub hl [1, 2, 3, 4, 5] rfl)
                    refine lv_icmp_ge (tgt := 266) hx hb dL_agrees_207 (by decide) (fun c404 => ?_) (fun c404 => ?_)
                    · have hD403 := ite_t c404 hD403
                      have e0 := inj1 hD403
                      exact kFt402 e0.symm _ _ hB
                    · have hD403 := ite_f c404 hD403
                      refine lv_iload_n hx hb dL_agrees_210 rfl (lv_at hl 3 rfl) ?_
                      refine lv_if_eq (tgt := 266) hx hb dL_agrees_211 (by decide) (fun c405 => ?_) (fun c405 => ?_)
                      · have hD403 := ite_t c405 hD403
                        have e0 := inj1 hD403
                        exact kFt402 e0.symm _ _ hB
                      · have hD403 := ite_f c405 hD403
                        have e0 := inj1 hD403
                        exact kTt402 e0.symm _ _ hB
                refine W.widen (k := (cv339 + 16) + (11 - 11) * 24) (n := (scv339 + 96) + (11 - 11) * 144) (by omega) (by omega) ?_
                exact key383 11 _ _ _ _ _ (Nat.le_refl _) hL384 hB (lv_sub hl [0, 1, 2, 3, 4, 5] rfl)
              have key362 : ∀ (n9 : Nat) (v447 : Int32) (v448 : Int32)  (H : Heap) (locs : List Loc) (ls : Array Slot), n9 ≤ 8 → loopM (fun st => mL_agrees_L148 fu K mT Ns v337 τs n pa β υ ω sid ζ κ Φ Ψ st.1 st.2) n9 (v447, v448) = some v360 → Bd (dC, dI) [(cyI, .int), (cyB, .byte), (cyO, .object "UndoJourneys$World"), (cyA, .array .int), (cyT, .object "UndoJourneysLaw$Trip"), (cyW, .object "UndoJourneysLaw$World"), (cyZ, .boolean)] (va_A (wF [cU cyI cyB cyO ua ub up aw as' pa β υ ω sid τs n, cX cyI cyA cyT wa ks ts kr ta sa ra K mT Ns ζ κ Φ Ψ]) s.heap.size) s (wF [cU cyI cyB cyO ua ub up aw as' pa β υ ω sid τs n, cX cyI cyA cyT wa ks ts kr ta sa ra K mT Ns ζ κ Φ Ψ]) H locs → lv_has ls 7 [(4, .int v447), (3, .int v337), (2, .int v448), (0, .ref ua), (1, .ref wa)] → W p l e (headSpec wqL_agrees rmL_agrees).room s m ([.ref ua, .ref wa] : List Value).toArray below meth c H locs ((cv339 + 0) + (8 - n9) * 2) ((scv339 + 0) + (8 - n9) * 12) (MQ below (QzF (dC, dI) [(cyI, .int), (cyB, .byte), (cyO, .object "UndoJourneys$World"), (cyA, .array .int), (cyT, .object "UndoJourneysLaw$Trip"), (cyW, .object "UndoJourneysLaw$World"), (cyZ, .boolean)] (wF [cU cyI cyB cyO ua ub up aw as' pa β υ ω sid τs n, cX cyI cyA cyT wa ks ts kr ta sa ra K mT Ns ζ κ Φ Ψ]) (wF [cU cyI cyB cyO ua ub up aw as' pa β υ ω sid τs n, cX cyI cyA cyT wa ks ts kr ta sa ra K mT Ns ζ κ Φ Ψ]) s.heap.size r) ([.ref ua, .ref wa] : List Value).toArray s 2000 12000 (va_A (wF [cU cyI cyB cyO ua ub up aw as' pa β υ ω sid τs n, cX cyI cyA cyT wa ks ts kr ta sa ra K mT Ns ζ κ Φ Ψ]) s.heap.size)) (F0 m 148 ls []) := by
                intro n9
                induction n9 with
                | zero => intro v447 v448 H locs ls _ hL363; exact (loopM_z hL363).elim
                | succ n9 ih9 =>
                  intro v447 v448 H locs ls hn451 hL363 hB hl
                  obtain ⟨cv449, hcv449⟩ : ∃ cv : Nat, cv + 0 = (cv339 + 0) + (8 - (n9 + 1)) * 2 := ⟨_, Nat.add_zero _⟩
                  obtain ⟨scv449, hscv449⟩ : ∃ cv : Nat, cv + 0 = (scv339 + 0) + (8 - (n9 + 1)) * 12 := ⟨_, Nat.add_zero _⟩
                  rw [← hcv449, ← hscv449]
                  obtain ⟨o450, hg364, hL363⟩ := loopM_s hL363
                  have hg364 : mL_agrees_L148 fu K mT Ns v337 τs n pa β υ ω sid ζ κ Φ Ψ v447 v448 = some o450 := hg364
                  unfold mL_agrees_L148 at hg364
                  refine lv_iload hx hb dL_agrees_148 (lv_at hl 0 rfl) ?_
                  refine lv_bipush (v := (7 : Int32)) hx hb dL_agrees_150 (by decide) ?_
                  obtain ⟨t452, hD453, hg364⟩ := ob1_s hg364
                  have kTt452 : t452 = true → ∀ (H : Heap) (locs : List Loc), Bd (dC, dI) [(cyI, .int), (cyB, .byte), (cyO, .object "UndoJourneys$World"), (cyA, .array .int), (cyT, .object "UndoJourneysLaw$Trip"), (cyW, .object "UndoJourneysLaw$World"), (cyZ, .boolean)] (va_A (wF [cU cyI cyB cyO ua ub up aw as' pa β υ ω sid τs n, cX cyI cyA cyT wa ks ts kr ta sa ra K mT Ns ζ κ Φ Ψ]) s.heap.size) s (wF [cU cyI cyB cyO ua ub up aw as' pa β υ ω sid τs n, cX cyI cyA cyT wa ks ts kr ta sa ra K mT Ns ζ κ Φ Ψ]) H locs → W p l e (headSpec wqL_agrees rmL_agrees).room s m ([.ref ua, .ref wa] : List Value).toArray below meth c H locs (cv449 + 0) (scv449 + 0) (MQ below (QzF (dC, dI) [(cyI, .int), (cyB, .byte), (cyO, .object "UndoJourneys$World"), (cyA, .array .int), (cyT, .object "UndoJourneysLaw$Trip"), (cyW, .object "UndoJourneysLaw$World"), (cyZ, .boolean)] (wF [cU cyI cyB cyO ua ub up aw as' pa β υ ω sid τs n, cX cyI cyA cyT wa ks ts kr ta sa ra K mT Ns ζ κ Φ Ψ]) (wF [cU cyI cyB cyO ua ub up aw as' pa β υ ω sid τs n, cX cyI cyA cyT wa ks ts kr ta sa ra K mT Ns ζ κ Φ Ψ]) s.heap.size r) ([.ref ua, .ref wa] : List Value).toArray s 2000 12000 (va_A (wF [cU cyI cyB cyO ua ub up aw as' pa β υ ω sid τs n, cX cyI cyA cyT wa ks ts kr ta sa ra K mT Ns ζ κ Φ Ψ]) s.heap.size)) (F0 m 159 ls []) := by
                    intro ht H locs hB
                    have hg364 := cnd_t ht hg364
                    refine lv_aload_n hx hb dL_agrees_159 rfl (lv_at hl 3 rfl) ?_
                    refine lv_iload_n hx hb dL_agrees_160 rfl (lv_at hl 1 rfl) ?_
                    refine lv_iload hx hb dL_agrees_161 (lv_at hl 0 rfl) ?_
                    obtain ⟨o456, hc, hg364⟩ := ob1_s hg364
                    obtain ⟨hc, hE9⟩ := hEl_s hc
                    obtain ⟨r457, er9, hg364⟩ := ob1_s hg364
                    have er9 := inj1 er9
                    refine e_Wi (S := Unit) (As := [.ref ua, .int v337, .int v447]) (rest := []) (wc := cU cyI cyB cyO ua ub up aw as' pa β υ ω sid τs n) (wr := (wF [cX cyI cyA cyT wa ks ts kr ta sa ra K mT Ns ζ κ Φ Ψ])) (w1 := fun _ => xU (cU cyI cyB cyO ua ub up aw as' pa β υ ω sid τs n) (fun x => (cU cyI cyB cyO ua ub up aw as' pa β υ ω sid τs n)) o456) ⟨hx, hb, hml, hown, hts⟩ (kL_journey l hl0 dC dI cyI cyB cyO cyA cyT cyW cyZ ua ub up aw as' kS H.size hc hE9) (vx_cwSW 3 hts (gv_L_journey_192 hgb) rfl rfl rfl (by decide +kernel) ⟨(Nat.le_of_ble_eq_true rfl), (Nat.le_of_ble_eq_true rfl)⟩) (epre_left hEV (hB.perm (wperm (L' := [cU cyI cyB cyO ua ub up aw as' pa β υ ω sid τs n, cX cyI cyA cyT wa ks ts kr ta sa ra K mT Ns ζ κ Φ Ψ]) [0, 1] (by decide +kernel) rfl rfl)) hA hK [.ref ua, .int v337, .int v447]) hB hA (wperm (L' := [cU cyI cyB cyO ua ub up aw as' pa β υ ω sid τs n, cX cyI cyA cyT wa ks ts kr ta sa ra K mT Ns ζ κ Φ Ψ]) [0, 1] (by decide +kernel) rfl rfl) rfl hl.1 rfl (Nat.le_of_ble_eq_true rfl) dL_agrees_163 ⟨by show _ ≤ 2000; omega, by show _ ≤ 12000; omega⟩ (fun r9 _ H locs hr9 hB => ?_)
                    rw [hr9, er9]
                    rw [xU_same (cU cyI cyB cyO ua ub up aw as' pa β υ ω sid τs n) o456] at hB
                    have hB := hB.perm wF_un1
                    have hB := hB.perm (wperm (L' := [cU cyI cyB cyO ua ub up aw as' pa β υ ω sid τs n, cX cyI cyA cyT wa ks ts kr ta sa ra K mT Ns ζ κ Φ Ψ]) [0, 1] (by decide +kernel) rfl rfl)
                    refine lv_aload_n hx hb dL_agrees_166 rfl (lv_at hl 4 rfl) ?_
                    refine lv_iload_n hx hb dL_agrees_167 rfl (lv_at hl 1 rfl) ?_
                    refine lv_iload hx hb dL_agrees_168 (lv_at hl 0 rfl) ?_
                    obtain ⟨r458, hc, hg364⟩ := ob1_s hg364
                    refine e_Vi (S := Unit) (As := [.int v337, .int v447]) (rest := [.int r457]) (wc := cX cyI cyA cyT wa ks ts kr ta sa ra K mT Ns ζ κ Φ Ψ) (wr := (wF [cU cyI cyB cyO ua ub up aw as' pa β υ ω sid τs n])) (w1 := fun _ => cX cyI cyA cyT wa ks ts kr ta sa ra K mT Ns ζ κ Φ Ψ) ⟨hx, hb, hml, hown, hts⟩ (kX6_ofTrip l dC dI cyI cyA cyT wa ks ts kr ta sa ra H.size hc) (cwV 2 hts (gv_X6_ofTrip_194 hgb) rfl rfl rfl (by decide +kernel) ⟨(Nat.le_of_ble_eq_true rfl), (Nat.le_of_ble_eq_true rfl)⟩) (pcut_pre (hB.perm (wperm (L' := [cX cyI cyA cyT wa ks ts kr ta sa ra K mT Ns ζ κ Φ Ψ, cU cyI cyB cyO ua ub up aw as' pa β υ ω sid τs n]) [1, 0] (by decide +kernel) rfl rfl)) (hK.sub [0, 3, 4] rfl) (.ref wa :: [.int v337, .int v447])) hB hA (g_recv (ci := 6) hK (hB.perm (wperm (L' := [cX cyI cyA cyT wa ks ts kr ta sa ra K mT Ns ζ κ Φ Ψ, cU cyI cyB cyO ua ub up aw as' pa β υ ω sid τs n]) [1, 0] (by decide +kernel) rfl rfl)) 0 rfl rfl rfl) (wperm (L' := [cX cyI cyA cyT wa ks ts kr ta sa ra K mT Ns ζ κ Φ Ψ, cU cyI cyB cyO ua ub up aw as' pa β υ ω sid τs n]) [1, 0] (by decide +kernel) rfl rfl) rfl hl.1 rfl (Nat.le_of_ble_eq_true rfl) dL_agrees_170 ⟨by show _ ≤ 2000; omega, by show _ ≤ 12000; omega⟩ (fun r9 _ H locs hr9 hB => ?_)
                    rw [hr9]
                    have hB := hB.perm wF_un1
                    have hB := hB.perm (wperm (L' := [cU cyI cyB cyO ua ub up aw as' pa β υ ω sid τs n, cX cyI cyA cyT wa ks ts kr ta sa ra K mT Ns ζ κ Φ Ψ]) [1, 0] (by decide +kernel) rfl rfl)
                    obtain ⟨v459, hJ461, hg364⟩ := ob1_s hg364
                    have kJ462 : (v459 = 0 ∨ v459 = 1) → ∀ (H : Heap) (locs : List Loc) (ls : Array Slot), Bd (dC, dI) [(cyI, .int), (cyB, .byte), (cyO, .object "UndoJourneys$World"), (cyA, .array .int), (cyT, .object "UndoJourneysLaw$Trip"), (cyW, .object "UndoJourneysLaw$World"), (cyZ, .boolean)] (va_A (wF [cU cyI cyB cyO ua ub up aw as' pa β υ ω sid τs n, cX cyI cyA cyT wa ks ts kr ta sa ra K mT Ns ζ κ Φ Ψ]) s.heap.size) s (wF [cU cyI cyB cyO ua ub up aw as' pa β υ ω sid τs n, cX cyI cyA cyT wa ks ts kr ta sa ra K mT Ns ζ κ Φ Ψ]) H locs → lv_has ls 7 [(4, .int v447), (3, .int v337), (0, .ref ua), (1, .ref wa)] → W p l e (headSpec wqL_agrees rmL_agrees).room s m ([.ref ua, .ref wa] : List Value).toArray below meth c H locs (cv449 + 2) (scv449 + 12) (MQ below (QzF (dC, dI) [(cyI, .int), (cyB, .byte), (cyO, .object "UndoJourneys$World"), (cyA, .array .int), (cyT, .object "UndoJourneysLaw$Trip"), (cyW, .object "UndoJourneysLaw$World"), (cyZ, .boolean)] (wF [cU cyI cyB cyO ua ub up aw as' pa β υ ω sid τs n, cX cyI cyA cyT wa ks ts kr ta sa ra K mT Ns ζ κ Φ Ψ]) (wF [cU cyI cyB cyO ua ub up aw as' pa β υ ω sid τs n, cX cyI cyA cyT wa ks ts kr ta sa ra K mT Ns ζ κ Φ Ψ]) s.heap.size r) ([.ref ua, .ref wa] : List Value).toArray s 2000 12000 (va_A (wF [cU cyI cyB cyO ua ub up aw as' pa β υ ω sid τs n, cX cyI cyA cyT wa ks ts kr ta sa ra K mT Ns ζ κ Φ Ψ]) s.heap.size)) (F0 m 181 ls [.int v459]) := by
                      intro z460 H locs ls hB hl
                      refine lv_istore_n (lv' := [(2, .int v459), (4, .int v447), (3, .int v337), (0, .ref ua), (1, .ref wa)]) hx hb dL_agrees_181 rfl hl (by decide) rfl (fun ls hl => ?_)
                      refine lv_iinc (v := (v447 + (1 : Int32))) (lv' := [(4, .int (v447 + (1 : Int32))), (2, .int v459), (3, .int v337), (0, .ref ua), (1, .ref wa)]) hx hb dL_agrees_182 hl (k := 1) rfl rfl (by decide) rfl (fun ls hl => ?_)
                      refine lv_goto (tgt := 148) hx hb dL_agrees_185 (by decide) ?_
                      have hL363 := el1_r (inj1 hg364) hL363
                      refine W.widen (k := (cv339 + 0) + (8 - n9) * 2) (n := (scv339 + 0) + (8 - n9) * 12) (by omega) (by omega) ?_
                      exact ih9 _ _ _ _ _ (by omega) hL363 hB (lv_sub hl [0, 2, 1, 3, 4] rfl)
                    refine lv_icmp_ne (tgt := 180) hx hb dL_agrees_173 (by decide) (fun c463 => ?_) (fun c463 => ?_)
                    · have hJ461 := ite_f c463 hJ461
                      refine lv_iconst (v := (0 : Int32)) hx hb dL_agrees_180 (by decide) ?_
                      have e0 := inj1 hJ461
                      subst e0
                      exact kJ462 (Or.inl rfl) _ _ _ hB (lv_sub hl [0, 1, 3, 4] rfl)
                    · have hJ461 := ite_t c463 hJ461
                      refine lv_iconst (v := (1 : Int32)) hx hb dL_agrees_176 (by decide) ?_
                      refine lv_goto (tgt := 181) hx hb dL_agrees_177 (by decide) ?_
                      have e0 := inj1 hJ461
                      subst e0
                      exact kJ462 (Or.inr rfl) _ _ _ hB (lv_sub hl [0, 1, 3, 4] rfl)
                  have kFt452 : t452 = false → ∀ (H : Heap) (locs : List Loc), Bd (dC, dI) [(cyI, .int), (cyB, .byte), (cyO, .object "UndoJourneys$World"), (cyA, .array .int), (cyT, .object "UndoJourneysLaw$Trip"), (cyW, .object "UndoJourneysLaw$World"), (cyZ, .boolean)] (va_A (wF [cU cyI cyB cyO ua ub up aw as' pa β υ ω sid τs n, cX cyI cyA cyT wa ks ts kr ta sa ra K mT Ns ζ κ Φ Ψ]) s.heap.size) s (wF [cU cyI cyB cyO ua ub up aw as' pa β υ ω sid τs n, cX cyI cyA cyT wa ks ts kr ta sa ra K mT Ns ζ κ Φ Ψ]) H locs → W p l e (headSpec wqL_agrees rmL_agrees).room s m ([.ref ua, .ref wa] : List Value).toArray below meth c H locs (cv449 + 0) (scv449 + 0) (MQ below (QzF (dC, dI) [(cyI, .int), (cyB, .byte), (cyO, .object "UndoJourneys$World"), (cyA, .array .int), (cyT, .object "UndoJourneysLaw$Trip"), (cyW, .object "UndoJourneysLaw$World"), (cyZ, .boolean)] (wF [cU cyI cyB cyO ua ub up aw as' pa β υ ω sid τs n, cX cyI cyA cyT wa ks ts kr ta sa ra K mT Ns ζ κ Φ Ψ]) (wF [cU cyI cyB cyO ua ub up aw as' pa β υ ω sid τs n, cX cyI cyA cyT wa ks ts kr ta sa ra K mT Ns ζ κ Φ Ψ]) s.heap.size r) ([.ref ua, .ref wa] : List Value).toArray s 2000 12000 (va_A (wF [cU cyI cyB cyO ua ub up aw as' pa β υ ω sid τs n, cX cyI cyA cyT wa ks ts kr ta sa ra K mT Ns ζ κ Φ Ψ]) s.heap.size)) (F0 m 188 ls []) := by
                    intro ht H locs hB
                    have hg364 := cnd_f ht hg364
                    have hL363 := el1_l (inj1 hg364) hL363
                    refine W.widen (k := (cv339 + 16)) (n := (scv339 + 96)) (by omega) (by omega) ?_
                    have e0 := inj1 hL363
                    subst e0
                    exact kE361 _ _ _ hB (lv_sub hl [1, 2, 3, 4] rfl)
                  refine lv_icmp_ge (tgt := 188) hx hb dL_agrees_152 (by decide) (fun c454 => ?_) (fun c454 => ?_)
                  · have hD453 := ite_t c454 hD453
                    have e0 := inj1 hD453
                    exact kFt452 e0.symm _ _ hB
                  · have hD453 := ite_f c454 hD453
                    refine lv_iload_n hx hb dL_agrees_155 rfl (lv_at hl 2 rfl) ?_
                    refine lv_if_eq (tgt := 188) hx hb dL_agrees_156 (by decide) (fun c455 => ?_) (fun c455 => ?_)
                    · have hD453 := ite_t c455 hD453
                      have e0 := inj1 hD453
                      exact kFt452 e0.symm _ _ hB
                    · have hD453 := ite_f c455 hD453
                      have e0 := inj1 hD453
                      exact kTt452 e0.symm _ _ hB
              refine W.widen (k := (cv339 + 0) + (8 - 8) * 2) (n := (scv339 + 0) + (8 - 8) * 12) (by omega) (by omega) ?_
              exact key362 8 _ _ _ _ _ (Nat.le_refl _) hL363 hB (lv_sub hl [0, 1, 2, 3, 4] rfl)
            have kFt342 : t342 = false → ∀ (H : Heap) (locs : List Loc), Bd (dC, dI) [(cyI, .int), (cyB, .byte), (cyO, .object "UndoJourneys$World"), (cyA, .array .int), (cyT, .object "UndoJourneysLaw$Trip"), (cyW, .object "UndoJourneysLaw$World"), (cyZ, .boolean)] (va_A (wF [cU cyI cyB cyO ua ub up aw as' pa β υ ω sid τs n, cX cyI cyA cyT wa ks ts kr ta sa ra K mT Ns ζ κ Φ Ψ]) s.heap.size) s (wF [cU cyI cyB cyO ua ub up aw as' pa β υ ω sid τs n, cX cyI cyA cyT wa ks ts kr ta sa ra K mT Ns ζ κ Φ Ψ]) H locs → W p l e (headSpec wqL_agrees rmL_agrees).room s m ([.ref ua, .ref wa] : List Value).toArray below meth c H locs (cv339 + 0) (scv339 + 0) (MQ below (QzF (dC, dI) [(cyI, .int), (cyB, .byte), (cyO, .object "UndoJourneys$World"), (cyA, .array .int), (cyT, .object "UndoJourneysLaw$Trip"), (cyW, .object "UndoJourneysLaw$World"), (cyZ, .boolean)] (wF [cU cyI cyB cyO ua ub up aw as' pa β υ ω sid τs n, cX cyI cyA cyT wa ks ts kr ta sa ra K mT Ns ζ κ Φ Ψ]) (wF [cU cyI cyB cyO ua ub up aw as' pa β υ ω sid τs n, cX cyI cyA cyT wa ks ts kr ta sa ra K mT Ns ζ κ Φ Ψ]) s.heap.size r) ([.ref ua, .ref wa] : List Value).toArray s 2000 12000 (va_A (wF [cU cyI cyB cyO ua ub up aw as' pa β υ ω sid τs n, cX cyI cyA cyT wa ks ts kr ta sa ra K mT Ns ζ κ Φ Ψ]) s.heap.size)) (F0 m 297 ls []) := by
              intro ht H locs hB
              have hg322 := cnd_f ht hg322
              have hL321 := el1_l (inj1 hg322) hL321
              refine W.widen (k := 1780) (n := 10680) (by omega) (by omega) ?_
              have e0 := inj1 hL321
              subst e0
              exact kE319 _ _ _ hB (lv_sub hl [1, 2, 3] rfl)
            refine lv_icmp_ge (tgt := 297) hx hb dL_agrees_138 (by decide) (fun c344 => ?_) (fun c344 => ?_)
            · have hD343 := ite_t c344 hD343
              have e0 := inj1 hD343
              exact kFt342 e0.symm _ _ hB
            · have hD343 := ite_f c344 hD343
              refine lv_iload_n hx hb dL_agrees_141 rfl (lv_at hl 1 rfl) ?_
              refine lv_if_eq (tgt := 297) hx hb dL_agrees_142 (by decide) (fun c345 => ?_) (fun c345 => ?_)
              · have hD343 := ite_t c345 hD343
                have e0 := inj1 hD343
                exact kFt342 e0.symm _ _ hB
              · have hD343 := ite_f c345 hD343
                have e0 := inj1 hD343
                exact kTt342 e0.symm _ _ hB
        refine W.widen (k := 82 + (6 - 6) * 283) (n := 492 + (6 - 6) * 1698) (by omega) (by omega) ?_
        exact key320 6 _ _ _ _ _ (Nat.le_refl _) hL321 hB (lv_sub hl [0, 1, 2, 3] rfl)
      have key111 : ∀ (n9 : Nat) (v465 : Int32) (v466 : Int32)  (H : Heap) (locs : List Loc) (ls : Array Slot), n9 ≤ 5 → loopM (fun st => mL_agrees_L68 fu K mT Ns τs n pa β υ ω sid ζ κ Φ Ψ st.1 st.2) n9 (v465, v466) = some v109 → Bd (dC, dI) [(cyI, .int), (cyB, .byte), (cyO, .object "UndoJourneys$World"), (cyA, .array .int), (cyT, .object "UndoJourneysLaw$Trip"), (cyW, .object "UndoJourneysLaw$World"), (cyZ, .boolean)] (va_A (wF [cU cyI cyB cyO ua ub up aw as' pa β υ ω sid τs n, cX cyI cyA cyT wa ks ts kr ta sa ra K mT Ns ζ κ Φ Ψ]) s.heap.size) s (wF [cU cyI cyB cyO ua ub up aw as' pa β υ ω sid τs n, cX cyI cyA cyT wa ks ts kr ta sa ra K mT Ns ζ κ Φ Ψ]) H locs → lv_has ls 7 [(3, .int v465), (2, .int v466), (0, .ref ua), (1, .ref wa)] → W p l e (headSpec wqL_agrees rmL_agrees).room s m ([.ref ua, .ref wa] : List Value).toArray below meth c H locs (12 + (5 - n9) * 14) (72 + (5 - n9) * 84) (MQ below (QzF (dC, dI) [(cyI, .int), (cyB, .byte), (cyO, .object "UndoJourneys$World"), (cyA, .array .int), (cyT, .object "UndoJourneysLaw$Trip"), (cyW, .object "UndoJourneysLaw$World"), (cyZ, .boolean)] (wF [cU cyI cyB cyO ua ub up aw as' pa β υ ω sid τs n, cX cyI cyA cyT wa ks ts kr ta sa ra K mT Ns ζ κ Φ Ψ]) (wF [cU cyI cyB cyO ua ub up aw as' pa β υ ω sid τs n, cX cyI cyA cyT wa ks ts kr ta sa ra K mT Ns ζ κ Φ Ψ]) s.heap.size r) ([.ref ua, .ref wa] : List Value).toArray s 2000 12000 (va_A (wF [cU cyI cyB cyO ua ub up aw as' pa β υ ω sid τs n, cX cyI cyA cyT wa ks ts kr ta sa ra K mT Ns ζ κ Φ Ψ]) s.heap.size)) (F0 m 68 ls []) := by
        intro n9
        induction n9 with
        | zero => intro v465 v466 H locs ls _ hL112; exact (loopM_z hL112).elim
        | succ n9 ih9 =>
          intro v465 v466 H locs ls hn469 hL112 hB hl
          obtain ⟨cv467, hcv467⟩ : ∃ cv : Nat, cv + 0 = 12 + (5 - (n9 + 1)) * 14 := ⟨_, Nat.add_zero _⟩
          obtain ⟨scv467, hscv467⟩ : ∃ cv : Nat, cv + 0 = 72 + (5 - (n9 + 1)) * 84 := ⟨_, Nat.add_zero _⟩
          rw [← hcv467, ← hscv467]
          obtain ⟨o468, hg113, hL112⟩ := loopM_s hL112
          have hg113 : mL_agrees_L68 fu K mT Ns τs n pa β υ ω sid ζ κ Φ Ψ v465 v466 = some o468 := hg113
          unfold mL_agrees_L68 at hg113
          refine lv_iload_n hx hb dL_agrees_68 rfl (lv_at hl 0 rfl) ?_
          refine lv_aload_n hx hb dL_agrees_69 rfl (lv_at hl 3 rfl) ?_
          refine g_get (C := RX6) (T := TX6) (N := 6) hx hb hts hinX6 hown hK (hB.perm (wperm (L' := [cX cyI cyA cyT wa ks ts kr ta sa ra K mT Ns ζ κ Φ Ψ, cU cyI cyB cyO ua ub up aw as' pa β υ ω sid τs n]) [1, 0] (by decide +kernel) rfl rfl)) 0 rfl rfl 4 rfl hq1 rfl rfl dL_agrees_70 ?_
          refine g_alen hx hb hK (hB.perm (wperm (L' := [cX cyI cyA cyT wa ks ts kr ta sa ra K mT Ns ζ κ Φ Ψ, cU cyI cyB cyO ua ub up aw as' pa β υ ω sid τs n]) [1, 0] (by decide +kernel) rfl rfl)) 1 3 rfl rfl (v := (nI K)) rfl dL_agrees_73 ?_
          obtain ⟨t470, hD471, hg113⟩ := ob1_s hg113
          have kTt470 : t470 = true → ∀ (H : Heap) (locs : List Loc), Bd (dC, dI) [(cyI, .int), (cyB, .byte), (cyO, .object "UndoJourneys$World"), (cyA, .array .int), (cyT, .object "UndoJourneysLaw$Trip"), (cyW, .object "UndoJourneysLaw$World"), (cyZ, .boolean)] (va_A (wF [cU cyI cyB cyO ua ub up aw as' pa β υ ω sid τs n, cX cyI cyA cyT wa ks ts kr ta sa ra K mT Ns ζ κ Φ Ψ]) s.heap.size) s (wF [cU cyI cyB cyO ua ub up aw as' pa β υ ω sid τs n, cX cyI cyA cyT wa ks ts kr ta sa ra K mT Ns ζ κ Φ Ψ]) H locs → W p l e (headSpec wqL_agrees rmL_agrees).room s m ([.ref ua, .ref wa] : List Value).toArray below meth c H locs (cv467 + 0) (scv467 + 0) (MQ below (QzF (dC, dI) [(cyI, .int), (cyB, .byte), (cyO, .object "UndoJourneys$World"), (cyA, .array .int), (cyT, .object "UndoJourneysLaw$Trip"), (cyW, .object "UndoJourneysLaw$World"), (cyZ, .boolean)] (wF [cU cyI cyB cyO ua ub up aw as' pa β υ ω sid τs n, cX cyI cyA cyT wa ks ts kr ta sa ra K mT Ns ζ κ Φ Ψ]) (wF [cU cyI cyB cyO ua ub up aw as' pa β υ ω sid τs n, cX cyI cyA cyT wa ks ts kr ta sa ra K mT Ns ζ κ Φ Ψ]) s.heap.size r) ([.ref ua, .ref wa] : List Value).toArray s 2000 12000 (va_A (wF [cU cyI cyB cyO ua ub up aw as' pa β υ ω sid τs n, cX cyI cyA cyT wa ks ts kr ta sa ra K mT Ns ζ κ Φ Ψ]) s.heap.size)) (F0 m 81 ls []) := by
            intro ht H locs hB
            have hg113 := cnd_t ht hg113
            refine lv_iconst (v := (0 : Int32)) hx hb dL_agrees_81 (by decide) ?_
            refine lv_istore (lv' := [(4, .int (0 : Int32)), (3, .int v465), (2, .int v466), (0, .ref ua), (1, .ref wa)]) hx hb dL_agrees_82 hl (by decide) rfl (fun ls hl => ?_)
            obtain ⟨v488, hL491, hg113⟩ := ob1_s hg113
            have kE489 : ∀  (H : Heap) (locs : List Loc) (ls : Array Slot), Bd (dC, dI) [(cyI, .int), (cyB, .byte), (cyO, .object "UndoJourneys$World"), (cyA, .array .int), (cyT, .object "UndoJourneysLaw$Trip"), (cyW, .object "UndoJourneysLaw$World"), (cyZ, .boolean)] (va_A (wF [cU cyI cyB cyO ua ub up aw as' pa β υ ω sid τs n, cX cyI cyA cyT wa ks ts kr ta sa ra K mT Ns ζ κ Φ Ψ]) s.heap.size) s (wF [cU cyI cyB cyO ua ub up aw as' pa β υ ω sid τs n, cX cyI cyA cyT wa ks ts kr ta sa ra K mT Ns ζ κ Φ Ψ]) H locs → lv_has ls 7 [(3, .int v465), (2, .int v488), (0, .ref ua), (1, .ref wa)] → W p l e (headSpec wqL_agrees rmL_agrees).room s m ([.ref ua, .ref wa] : List Value).toArray below meth c H locs (cv467 + 14) (scv467 + 84) (MQ below (QzF (dC, dI) [(cyI, .int), (cyB, .byte), (cyO, .object "UndoJourneys$World"), (cyA, .array .int), (cyT, .object "UndoJourneysLaw$Trip"), (cyW, .object "UndoJourneysLaw$World"), (cyZ, .boolean)] (wF [cU cyI cyB cyO ua ub up aw as' pa β υ ω sid τs n, cX cyI cyA cyT wa ks ts kr ta sa ra K mT Ns ζ κ Φ Ψ]) (wF [cU cyI cyB cyO ua ub up aw as' pa β υ ω sid τs n, cX cyI cyA cyT wa ks ts kr ta sa ra K mT Ns ζ κ Φ Ψ]) s.heap.size r) ([.ref ua, .ref wa] : List Value).toArray s 2000 12000 (va_A (wF [cU cyI cyB cyO ua ub up aw as' pa β υ ω sid τs n, cX cyI cyA cyT wa ks ts kr ta sa ra K mT Ns ζ κ Φ Ψ]) s.heap.size)) (F0 m 124 ls []) := by
              intro H locs ls hB hl
              refine lv_iinc (v := (v465 + (1 : Int32))) (lv' := [(3, .int (v465 + (1 : Int32))), (2, .int v488), (0, .ref ua), (1, .ref wa)]) hx hb dL_agrees_124 hl (k := 0) rfl rfl (by decide) rfl (fun ls hl => ?_)
              refine lv_goto (tgt := 68) hx hb dL_agrees_127 (by decide) ?_
              have hL112 := el1_r (inj1 hg113) hL112
              refine W.widen (k := 12 + (5 - n9) * 14) (n := 72 + (5 - n9) * 84) (by omega) (by omega) ?_
              exact ih9 _ _ _ _ _ (by omega) hL112 hB (lv_sub hl [0, 1, 2, 3] rfl)
            have key490 : ∀ (n9 : Nat) (v494 : Int32) (v495 : Int32)  (H : Heap) (locs : List Loc) (ls : Array Slot), n9 ≤ 7 → loopM (fun st => mL_agrees_L84 fu K mT Ns v465 τs n pa β υ ω sid ζ κ Φ Ψ st.1 st.2) n9 (v494, v495) = some v488 → Bd (dC, dI) [(cyI, .int), (cyB, .byte), (cyO, .object "UndoJourneys$World"), (cyA, .array .int), (cyT, .object "UndoJourneysLaw$Trip"), (cyW, .object "UndoJourneysLaw$World"), (cyZ, .boolean)] (va_A (wF [cU cyI cyB cyO ua ub up aw as' pa β υ ω sid τs n, cX cyI cyA cyT wa ks ts kr ta sa ra K mT Ns ζ κ Φ Ψ]) s.heap.size) s (wF [cU cyI cyB cyO ua ub up aw as' pa β υ ω sid τs n, cX cyI cyA cyT wa ks ts kr ta sa ra K mT Ns ζ κ Φ Ψ]) H locs → lv_has ls 7 [(4, .int v494), (3, .int v465), (2, .int v495), (0, .ref ua), (1, .ref wa)] → W p l e (headSpec wqL_agrees rmL_agrees).room s m ([.ref ua, .ref wa] : List Value).toArray below meth c H locs ((cv467 + 0) + (7 - n9) * 2) ((scv467 + 0) + (7 - n9) * 12) (MQ below (QzF (dC, dI) [(cyI, .int), (cyB, .byte), (cyO, .object "UndoJourneys$World"), (cyA, .array .int), (cyT, .object "UndoJourneysLaw$Trip"), (cyW, .object "UndoJourneysLaw$World"), (cyZ, .boolean)] (wF [cU cyI cyB cyO ua ub up aw as' pa β υ ω sid τs n, cX cyI cyA cyT wa ks ts kr ta sa ra K mT Ns ζ κ Φ Ψ]) (wF [cU cyI cyB cyO ua ub up aw as' pa β υ ω sid τs n, cX cyI cyA cyT wa ks ts kr ta sa ra K mT Ns ζ κ Φ Ψ]) s.heap.size r) ([.ref ua, .ref wa] : List Value).toArray s 2000 12000 (va_A (wF [cU cyI cyB cyO ua ub up aw as' pa β υ ω sid τs n, cX cyI cyA cyT wa ks ts kr ta sa ra K mT Ns ζ κ Φ Ψ]) s.heap.size)) (F0 m 84 ls []) := by
              intro n9
              induction n9 with
              | zero => intro v494 v495 H locs ls _ hL491; exact (loopM_z hL491).elim
              | succ n9 ih9 =>
                intro v494 v495 H locs ls hn498 hL491 hB hl
                obtain ⟨cv496, hcv496⟩ : ∃ cv : Nat, cv + 0 = (cv467 + 0) + (7 - (n9 + 1)) * 2 := ⟨_, Nat.add_zero _⟩
                obtain ⟨scv496, hscv496⟩ : ∃ cv : Nat, cv + 0 = (scv467 + 0) + (7 - (n9 + 1)) * 12 := ⟨_, Nat.add_zero _⟩
                rw [← hcv496, ← hscv496]
                obtain ⟨o497, hg492, hL491⟩ := loopM_s hL491
                have hg492 : mL_agrees_L84 fu K mT Ns v465 τs n pa β υ ω sid ζ κ Φ Ψ v494 v495 = some o497 := hg492
                unfold mL_agrees_L84 at hg492
                refine lv_iload hx hb dL_agrees_84 (lv_at hl 0 rfl) ?_
                refine lv_bipush (v := (6 : Int32)) hx hb dL_agrees_86 (by decide) ?_
                obtain ⟨t499, hD500, hg492⟩ := ob1_s hg492
                have kTt499 : t499 = true → ∀ (H : Heap) (locs : List Loc), Bd (dC, dI) [(cyI, .int), (cyB, .byte), (cyO, .object "UndoJourneys$World"), (cyA, .array .int), (cyT, .object "UndoJourneysLaw$Trip"), (cyW, .object "UndoJourneysLaw$World"), (cyZ, .boolean)] (va_A (wF [cU cyI cyB cyO ua ub up aw as' pa β υ ω sid τs n, cX cyI cyA cyT wa ks ts kr ta sa ra K mT Ns ζ κ Φ Ψ]) s.heap.size) s (wF [cU cyI cyB cyO ua ub up aw as' pa β υ ω sid τs n, cX cyI cyA cyT wa ks ts kr ta sa ra K mT Ns ζ κ Φ Ψ]) H locs → W p l e (headSpec wqL_agrees rmL_agrees).room s m ([.ref ua, .ref wa] : List Value).toArray below meth c H locs (cv496 + 0) (scv496 + 0) (MQ below (QzF (dC, dI) [(cyI, .int), (cyB, .byte), (cyO, .object "UndoJourneys$World"), (cyA, .array .int), (cyT, .object "UndoJourneysLaw$Trip"), (cyW, .object "UndoJourneysLaw$World"), (cyZ, .boolean)] (wF [cU cyI cyB cyO ua ub up aw as' pa β υ ω sid τs n, cX cyI cyA cyT wa ks ts kr ta sa ra K mT Ns ζ κ Φ Ψ]) (wF [cU cyI cyB cyO ua ub up aw as' pa β υ ω sid τs n, cX cyI cyA cyT wa ks ts kr ta sa ra K mT Ns ζ κ Φ Ψ]) s.heap.size r) ([.ref ua, .ref wa] : List Value).toArray s 2000 12000 (va_A (wF [cU cyI cyB cyO ua ub up aw as' pa β υ ω sid τs n, cX cyI cyA cyT wa ks ts kr ta sa ra K mT Ns ζ κ Φ Ψ]) s.heap.size)) (F0 m 95 ls []) := by
                  intro ht H locs hB
                  have hg492 := cnd_t ht hg492
                  refine lv_aload_n hx hb dL_agrees_95 rfl (lv_at hl 3 rfl) ?_
                  refine lv_iload_n hx hb dL_agrees_96 rfl (lv_at hl 1 rfl) ?_
                  refine lv_iload hx hb dL_agrees_97 (lv_at hl 0 rfl) ?_
                  obtain ⟨o503, hc, hg492⟩ := ob1_s hg492
                  obtain ⟨hc, hE9⟩ := hEl_s hc
                  obtain ⟨r504, er9, hg492⟩ := ob1_s hg492
                  have er9 := inj1 er9
                  refine e_Wi (S := Unit) (As := [.ref ua, .int v465, .int v494]) (rest := []) (wc := cU cyI cyB cyO ua ub up aw as' pa β υ ω sid τs n) (wr := (wF [cX cyI cyA cyT wa ks ts kr ta sa ra K mT Ns ζ κ Φ Ψ])) (w1 := fun _ => xU (cU cyI cyB cyO ua ub up aw as' pa β υ ω sid τs n) (fun x => (cU cyI cyB cyO ua ub up aw as' pa β υ ω sid τs n)) o503) ⟨hx, hb, hml, hown, hts⟩ (kL_stock l hl0 dC dI cyI cyB cyO cyA cyT cyW cyZ ua ub up aw as' kS H.size hc hE9) (vx_cwSW 3 hts (gv_L_stock_186 hgb) rfl rfl rfl (by decide +kernel) ⟨(Nat.le_of_ble_eq_true rfl), (Nat.le_of_ble_eq_true rfl)⟩) (epre_left hEV (hB.perm (wperm (L' := [cU cyI cyB cyO ua ub up aw as' pa β υ ω sid τs n, cX cyI cyA cyT wa ks ts kr ta sa ra K mT Ns ζ κ Φ Ψ]) [0, 1] (by decide +kernel) rfl rfl)) hA hK [.ref ua, .int v465, .int v494]) hB hA (wperm (L' := [cU cyI cyB cyO ua ub up aw as' pa β υ ω sid τs n, cX cyI cyA cyT wa ks ts kr ta sa ra K mT Ns ζ κ Φ Ψ]) [0, 1] (by decide +kernel) rfl rfl) rfl hl.1 rfl (Nat.le_of_ble_eq_true rfl) dL_agrees_99 ⟨by show _ ≤ 2000; omega, by show _ ≤ 12000; omega⟩ (fun r9 _ H locs hr9 hB => ?_)
                  rw [hr9, er9]
                  rw [xU_same (cU cyI cyB cyO ua ub up aw as' pa β υ ω sid τs n) o503] at hB
                  have hB := hB.perm wF_un1
                  have hB := hB.perm (wperm (L' := [cU cyI cyB cyO ua ub up aw as' pa β υ ω sid τs n, cX cyI cyA cyT wa ks ts kr ta sa ra K mT Ns ζ κ Φ Ψ]) [0, 1] (by decide +kernel) rfl rfl)
                  refine lv_aload_n hx hb dL_agrees_102 rfl (lv_at hl 4 rfl) ?_
                  refine lv_iload_n hx hb dL_agrees_103 rfl (lv_at hl 1 rfl) ?_
                  refine lv_iload hx hb dL_agrees_104 (lv_at hl 0 rfl) ?_
                  obtain ⟨r505, hc, hg492⟩ := ob1_s hg492
                  refine e_Vi (S := Unit) (As := [.int v465, .int v494]) (rest := [.int r504]) (wc := cX cyI cyA cyT wa ks ts kr ta sa ra K mT Ns ζ κ Φ Ψ) (wr := (wF [cU cyI cyB cyO ua ub up aw as' pa β υ ω sid τs n])) (w1 := fun _ => cX cyI cyA cyT wa ks ts kr ta sa ra K mT Ns ζ κ Φ Ψ) ⟨hx, hb, hml, hown, hts⟩ (kX6_ofStock l dC dI cyI cyA cyT wa ks ts kr ta sa ra H.size hc) (cwV 2 hts (gv_X6_ofStock_189 hgb) rfl rfl rfl (by decide +kernel) ⟨(Nat.le_of_ble_eq_true rfl), (Nat.le_of_ble_eq_true rfl)⟩) (pcut_pre (hB.perm (wperm (L' := [cX cyI cyA cyT wa ks ts kr ta sa ra K mT Ns ζ κ Φ Ψ, cU cyI cyB cyO ua ub up aw as' pa β υ ω sid τs n]) [1, 0] (by decide +kernel) rfl rfl)) (hK.sub [0, 3, 4] rfl) (.ref wa :: [.int v465, .int v494])) hB hA (g_recv (ci := 6) hK (hB.perm (wperm (L' := [cX cyI cyA cyT wa ks ts kr ta sa ra K mT Ns ζ κ Φ Ψ, cU cyI cyB cyO ua ub up aw as' pa β υ ω sid τs n]) [1, 0] (by decide +kernel) rfl rfl)) 0 rfl rfl rfl) (wperm (L' := [cX cyI cyA cyT wa ks ts kr ta sa ra K mT Ns ζ κ Φ Ψ, cU cyI cyB cyO ua ub up aw as' pa β υ ω sid τs n]) [1, 0] (by decide +kernel) rfl rfl) rfl hl.1 rfl (Nat.le_of_ble_eq_true rfl) dL_agrees_106 ⟨by show _ ≤ 2000; omega, by show _ ≤ 12000; omega⟩ (fun r9 _ H locs hr9 hB => ?_)
                  rw [hr9]
                  have hB := hB.perm wF_un1
                  have hB := hB.perm (wperm (L' := [cU cyI cyB cyO ua ub up aw as' pa β υ ω sid τs n, cX cyI cyA cyT wa ks ts kr ta sa ra K mT Ns ζ κ Φ Ψ]) [1, 0] (by decide +kernel) rfl rfl)
                  obtain ⟨v506, hJ508, hg492⟩ := ob1_s hg492
                  have kJ509 : (v506 = 0 ∨ v506 = 1) → ∀ (H : Heap) (locs : List Loc) (ls : Array Slot), Bd (dC, dI) [(cyI, .int), (cyB, .byte), (cyO, .object "UndoJourneys$World"), (cyA, .array .int), (cyT, .object "UndoJourneysLaw$Trip"), (cyW, .object "UndoJourneysLaw$World"), (cyZ, .boolean)] (va_A (wF [cU cyI cyB cyO ua ub up aw as' pa β υ ω sid τs n, cX cyI cyA cyT wa ks ts kr ta sa ra K mT Ns ζ κ Φ Ψ]) s.heap.size) s (wF [cU cyI cyB cyO ua ub up aw as' pa β υ ω sid τs n, cX cyI cyA cyT wa ks ts kr ta sa ra K mT Ns ζ κ Φ Ψ]) H locs → lv_has ls 7 [(4, .int v494), (3, .int v465), (0, .ref ua), (1, .ref wa)] → W p l e (headSpec wqL_agrees rmL_agrees).room s m ([.ref ua, .ref wa] : List Value).toArray below meth c H locs (cv496 + 2) (scv496 + 12) (MQ below (QzF (dC, dI) [(cyI, .int), (cyB, .byte), (cyO, .object "UndoJourneys$World"), (cyA, .array .int), (cyT, .object "UndoJourneysLaw$Trip"), (cyW, .object "UndoJourneysLaw$World"), (cyZ, .boolean)] (wF [cU cyI cyB cyO ua ub up aw as' pa β υ ω sid τs n, cX cyI cyA cyT wa ks ts kr ta sa ra K mT Ns ζ κ Φ Ψ]) (wF [cU cyI cyB cyO ua ub up aw as' pa β υ ω sid τs n, cX cyI cyA cyT wa ks ts kr ta sa ra K mT Ns ζ κ Φ Ψ]) s.heap.size r) ([.ref ua, .ref wa] : List Value).toArray s 2000 12000 (va_A (wF [cU cyI cyB cyO ua ub up aw as' pa β υ ω sid τs n, cX cyI cyA cyT wa ks ts kr ta sa ra K mT Ns ζ κ Φ Ψ]) s.heap.size)) (F0 m 117 ls [.int v506]) := by
                    intro z507 H locs ls hB hl
                    refine lv_istore_n (lv' := [(2, .int v506), (4, .int v494), (3, .int v465), (0, .ref ua), (1, .ref wa)]) hx hb dL_agrees_117 rfl hl (by decide) rfl (fun ls hl => ?_)
                    refine lv_iinc (v := (v494 + (1 : Int32))) (lv' := [(4, .int (v494 + (1 : Int32))), (2, .int v506), (3, .int v465), (0, .ref ua), (1, .ref wa)]) hx hb dL_agrees_118 hl (k := 1) rfl rfl (by decide) rfl (fun ls hl => ?_)
                    refine lv_goto (tgt := 84) hx hb dL_agrees_121 (by decide) ?_
                    have hL491 := el1_r (inj1 hg492) hL491
                    refine W.widen (k := (cv467 + 0) + (7 - n9) * 2) (n := (scv467 + 0) + (7 - n9) * 12) (by omega) (by omega) ?_
                    exact ih9 _ _ _ _ _ (by omega) hL491 hB (lv_sub hl [0, 2, 1, 3, 4] rfl)
                  refine lv_icmp_ne (tgt := 116) hx hb dL_agrees_109 (by decide) (fun c510 => ?_) (fun c510 => ?_)
                  · have hJ508 := ite_f c510 hJ508
                    refine lv_iconst (v := (0 : Int32)) hx hb dL_agrees_116 (by decide) ?_
                    have e0 := inj1 hJ508
                    subst e0
                    exact kJ509 (Or.inl rfl) _ _ _ hB (lv_sub hl [0, 1, 3, 4] rfl)
                  · have hJ508 := ite_t c510 hJ508
                    refine lv_iconst (v := (1 : Int32)) hx hb dL_agrees_112 (by decide) ?_
                    refine lv_goto (tgt := 117) hx hb dL_agrees_113 (by decide) ?_
                    have e0 := inj1 hJ508
                    subst e0
                    exact kJ509 (Or.inr rfl) _ _ _ hB (lv_sub hl [0, 1, 3, 4] rfl)
                have kFt499 : t499 = false → ∀ (H : Heap) (locs : List Loc), Bd (dC, dI) [(cyI, .int), (cyB, .byte), (cyO, .object "UndoJourneys$World"), (cyA, .array .int), (cyT, .object "UndoJourneysLaw$Trip"), (cyW, .object "UndoJourneysLaw$World"), (cyZ, .boolean)] (va_A (wF [cU cyI cyB cyO ua ub up aw as' pa β υ ω sid τs n, cX cyI cyA cyT wa ks ts kr ta sa ra K mT Ns ζ κ Φ Ψ]) s.heap.size) s (wF [cU cyI cyB cyO ua ub up aw as' pa β υ ω sid τs n, cX cyI cyA cyT wa ks ts kr ta sa ra K mT Ns ζ κ Φ Ψ]) H locs → W p l e (headSpec wqL_agrees rmL_agrees).room s m ([.ref ua, .ref wa] : List Value).toArray below meth c H locs (cv496 + 0) (scv496 + 0) (MQ below (QzF (dC, dI) [(cyI, .int), (cyB, .byte), (cyO, .object "UndoJourneys$World"), (cyA, .array .int), (cyT, .object "UndoJourneysLaw$Trip"), (cyW, .object "UndoJourneysLaw$World"), (cyZ, .boolean)] (wF [cU cyI cyB cyO ua ub up aw as' pa β υ ω sid τs n, cX cyI cyA cyT wa ks ts kr ta sa ra K mT Ns ζ κ Φ Ψ]) (wF [cU cyI cyB cyO ua ub up aw as' pa β υ ω sid τs n, cX cyI cyA cyT wa ks ts kr ta sa ra K mT Ns ζ κ Φ Ψ]) s.heap.size r) ([.ref ua, .ref wa] : List Value).toArray s 2000 12000 (va_A (wF [cU cyI cyB cyO ua ub up aw as' pa β υ ω sid τs n, cX cyI cyA cyT wa ks ts kr ta sa ra K mT Ns ζ κ Φ Ψ]) s.heap.size)) (F0 m 124 ls []) := by
                  intro ht H locs hB
                  have hg492 := cnd_f ht hg492
                  have hL491 := el1_l (inj1 hg492) hL491
                  refine W.widen (k := (cv467 + 14)) (n := (scv467 + 84)) (by omega) (by omega) ?_
                  have e0 := inj1 hL491
                  subst e0
                  exact kE489 _ _ _ hB (lv_sub hl [1, 2, 3, 4] rfl)
                refine lv_icmp_ge (tgt := 124) hx hb dL_agrees_88 (by decide) (fun c501 => ?_) (fun c501 => ?_)
                · have hD500 := ite_t c501 hD500
                  have e0 := inj1 hD500
                  exact kFt499 e0.symm _ _ hB
                · have hD500 := ite_f c501 hD500
                  refine lv_iload_n hx hb dL_agrees_91 rfl (lv_at hl 2 rfl) ?_
                  refine lv_if_eq (tgt := 124) hx hb dL_agrees_92 (by decide) (fun c502 => ?_) (fun c502 => ?_)
                  · have hD500 := ite_t c502 hD500
                    have e0 := inj1 hD500
                    exact kFt499 e0.symm _ _ hB
                  · have hD500 := ite_f c502 hD500
                    have e0 := inj1 hD500
                    exact kTt499 e0.symm _ _ hB
            refine W.widen (k := (cv467 + 0) + (7 - 7) * 2) (n := (scv467 + 0) + (7 - 7) * 12) (by omega) (by omega) ?_
            exact key490 7 _ _ _ _ _ (Nat.le_refl _) hL491 hB (lv_sub hl [0, 1, 2, 3, 4] rfl)
          have kFt470 : t470 = false → ∀ (H : Heap) (locs : List Loc), Bd (dC, dI) [(cyI, .int), (cyB, .byte), (cyO, .object "UndoJourneys$World"), (cyA, .array .int), (cyT, .object "UndoJourneysLaw$Trip"), (cyW, .object "UndoJourneysLaw$World"), (cyZ, .boolean)] (va_A (wF [cU cyI cyB cyO ua ub up aw as' pa β υ ω sid τs n, cX cyI cyA cyT wa ks ts kr ta sa ra K mT Ns ζ κ Φ Ψ]) s.heap.size) s (wF [cU cyI cyB cyO ua ub up aw as' pa β υ ω sid τs n, cX cyI cyA cyT wa ks ts kr ta sa ra K mT Ns ζ κ Φ Ψ]) H locs → W p l e (headSpec wqL_agrees rmL_agrees).room s m ([.ref ua, .ref wa] : List Value).toArray below meth c H locs (cv467 + 0) (scv467 + 0) (MQ below (QzF (dC, dI) [(cyI, .int), (cyB, .byte), (cyO, .object "UndoJourneys$World"), (cyA, .array .int), (cyT, .object "UndoJourneysLaw$Trip"), (cyW, .object "UndoJourneysLaw$World"), (cyZ, .boolean)] (wF [cU cyI cyB cyO ua ub up aw as' pa β υ ω sid τs n, cX cyI cyA cyT wa ks ts kr ta sa ra K mT Ns ζ κ Φ Ψ]) (wF [cU cyI cyB cyO ua ub up aw as' pa β υ ω sid τs n, cX cyI cyA cyT wa ks ts kr ta sa ra K mT Ns ζ κ Φ Ψ]) s.heap.size r) ([.ref ua, .ref wa] : List Value).toArray s 2000 12000 (va_A (wF [cU cyI cyB cyO ua ub up aw as' pa β υ ω sid τs n, cX cyI cyA cyT wa ks ts kr ta sa ra K mT Ns ζ κ Φ Ψ]) s.heap.size)) (F0 m 130 ls []) := by
            intro ht H locs hB
            have hg113 := cnd_f ht hg113
            have hL112 := el1_l (inj1 hg113) hL112
            refine W.widen (k := 82) (n := 492) (by omega) (by omega) ?_
            have e0 := inj1 hL112
            subst e0
            exact kE110 _ _ _ hB (lv_sub hl [1, 2, 3] rfl)
          refine lv_icmp_ge (tgt := 130) hx hb dL_agrees_74 (by decide) (fun c472 => ?_) (fun c472 => ?_)
          · have hD471 := ite_t c472 hD471
            have e0 := inj1 hD471
            exact kFt470 e0.symm _ _ hB
          · have hD471 := ite_f c472 hD471
            refine lv_iload_n hx hb dL_agrees_77 rfl (lv_at hl 1 rfl) ?_
            refine lv_if_eq (tgt := 130) hx hb dL_agrees_78 (by decide) (fun c473 => ?_) (fun c473 => ?_)
            · have hD471 := ite_t c473 hD471
              have e0 := inj1 hD471
              exact kFt470 e0.symm _ _ hB
            · have hD471 := ite_f c473 hD471
              have e0 := inj1 hD471
              exact kTt470 e0.symm _ _ hB
      refine W.widen (k := 12 + (5 - 5) * 14) (n := 72 + (5 - 5) * 84) (by omega) (by omega) ?_
      exact key111 5 _ _ _ _ _ (Nat.le_refl _) hL112 hB (lv_sub hl [0, 1, 2, 3] rfl)
    have key40 : ∀ (n9 : Nat) (v512 : Int32) (v513 : Int32)  (H : Heap) (locs : List Loc) (ls : Array Slot), n9 ≤ 11 → loopM (fun st => mL_agrees_L31 fu K mT Ns τs n pa β υ ω sid ζ κ Φ Ψ st.1 st.2) n9 (v512, v513) = some v38 → Bd (dC, dI) [(cyI, .int), (cyB, .byte), (cyO, .object "UndoJourneys$World"), (cyA, .array .int), (cyT, .object "UndoJourneysLaw$Trip"), (cyW, .object "UndoJourneysLaw$World"), (cyZ, .boolean)] (va_A (wF [cU cyI cyB cyO ua ub up aw as' pa β υ ω sid τs n, cX cyI cyA cyT wa ks ts kr ta sa ra K mT Ns ζ κ Φ Ψ]) s.heap.size) s (wF [cU cyI cyB cyO ua ub up aw as' pa β υ ω sid τs n, cX cyI cyA cyT wa ks ts kr ta sa ra K mT Ns ζ κ Φ Ψ]) H locs → lv_has ls 7 [(3, .int v512), (2, .int v513), (0, .ref ua), (1, .ref wa)] → W p l e (headSpec wqL_agrees rmL_agrees).room s m ([.ref ua, .ref wa] : List Value).toArray below meth c H locs (1 + (11 - n9) * 1) (6 + (11 - n9) * 6) (MQ below (QzF (dC, dI) [(cyI, .int), (cyB, .byte), (cyO, .object "UndoJourneys$World"), (cyA, .array .int), (cyT, .object "UndoJourneysLaw$Trip"), (cyW, .object "UndoJourneysLaw$World"), (cyZ, .boolean)] (wF [cU cyI cyB cyO ua ub up aw as' pa β υ ω sid τs n, cX cyI cyA cyT wa ks ts kr ta sa ra K mT Ns ζ κ Φ Ψ]) (wF [cU cyI cyB cyO ua ub up aw as' pa β υ ω sid τs n, cX cyI cyA cyT wa ks ts kr ta sa ra K mT Ns ζ κ Φ Ψ]) s.heap.size r) ([.ref ua, .ref wa] : List Value).toArray s 2000 12000 (va_A (wF [cU cyI cyB cyO ua ub up aw as' pa β υ ω sid τs n, cX cyI cyA cyT wa ks ts kr ta sa ra K mT Ns ζ κ Φ Ψ]) s.heap.size)) (F0 m 31 ls []) := by
      intro n9
      induction n9 with
      | zero => intro v512 v513 H locs ls _ hL41; exact (loopM_z hL41).elim
      | succ n9 ih9 =>
        intro v512 v513 H locs ls hn516 hL41 hB hl
        obtain ⟨cv514, hcv514⟩ : ∃ cv : Nat, cv + 0 = 1 + (11 - (n9 + 1)) * 1 := ⟨_, Nat.add_zero _⟩
        obtain ⟨scv514, hscv514⟩ : ∃ cv : Nat, cv + 0 = 6 + (11 - (n9 + 1)) * 6 := ⟨_, Nat.add_zero _⟩
        rw [← hcv514, ← hscv514]
        obtain ⟨o515, hg42, hL41⟩ := loopM_s hL41
        have hg42 : mL_agrees_L31 fu K mT Ns τs n pa β υ ω sid ζ κ Φ Ψ v512 v513 = some o515 := hg42
        unfold mL_agrees_L31 at hg42
        refine lv_iload_n hx hb dL_agrees_31 rfl (lv_at hl 0 rfl) ?_
        refine lv_bipush (v := (10 : Int32)) hx hb dL_agrees_32 (by decide) ?_
        obtain ⟨t517, hD518, hg42⟩ := ob1_s hg42
        have kTt517 : t517 = true → ∀ (H : Heap) (locs : List Loc), Bd (dC, dI) [(cyI, .int), (cyB, .byte), (cyO, .object "UndoJourneys$World"), (cyA, .array .int), (cyT, .object "UndoJourneysLaw$Trip"), (cyW, .object "UndoJourneysLaw$World"), (cyZ, .boolean)] (va_A (wF [cU cyI cyB cyO ua ub up aw as' pa β υ ω sid τs n, cX cyI cyA cyT wa ks ts kr ta sa ra K mT Ns ζ κ Φ Ψ]) s.heap.size) s (wF [cU cyI cyB cyO ua ub up aw as' pa β υ ω sid τs n, cX cyI cyA cyT wa ks ts kr ta sa ra K mT Ns ζ κ Φ Ψ]) H locs → W p l e (headSpec wqL_agrees rmL_agrees).room s m ([.ref ua, .ref wa] : List Value).toArray below meth c H locs (cv514 + 0) (scv514 + 0) (MQ below (QzF (dC, dI) [(cyI, .int), (cyB, .byte), (cyO, .object "UndoJourneys$World"), (cyA, .array .int), (cyT, .object "UndoJourneysLaw$Trip"), (cyW, .object "UndoJourneysLaw$World"), (cyZ, .boolean)] (wF [cU cyI cyB cyO ua ub up aw as' pa β υ ω sid τs n, cX cyI cyA cyT wa ks ts kr ta sa ra K mT Ns ζ κ Φ Ψ]) (wF [cU cyI cyB cyO ua ub up aw as' pa β υ ω sid τs n, cX cyI cyA cyT wa ks ts kr ta sa ra K mT Ns ζ κ Φ Ψ]) s.heap.size r) ([.ref ua, .ref wa] : List Value).toArray s 2000 12000 (va_A (wF [cU cyI cyB cyO ua ub up aw as' pa β υ ω sid τs n, cX cyI cyA cyT wa ks ts kr ta sa ra K mT Ns ζ κ Φ Ψ]) s.heap.size)) (F0 m 41 ls []) := by
          intro ht H locs hB
          have hg42 := cnd_t ht hg42
          refine lv_aload_n hx hb dL_agrees_41 rfl (lv_at hl 2 rfl) ?_
          refine lv_iload_n hx hb dL_agrees_42 rfl (lv_at hl 0 rfl) ?_
          obtain ⟨o521, hc, hg42⟩ := ob1_s hg42
          obtain ⟨hc, hE9⟩ := hEl_s hc
          obtain ⟨r522, er9, hg42⟩ := ob1_s hg42
          have er9 := inj1 er9
          refine e_Wi (S := Unit) (As := [.ref ua, .int v512]) (rest := []) (wc := cU cyI cyB cyO ua ub up aw as' pa β υ ω sid τs n) (wr := (wF [cX cyI cyA cyT wa ks ts kr ta sa ra K mT Ns ζ κ Φ Ψ])) (w1 := fun _ => xU (cU cyI cyB cyO ua ub up aw as' pa β υ ω sid τs n) (fun x => (cU cyI cyB cyO ua ub up aw as' pa β υ ω sid τs n)) o521) ⟨hx, hb, hml, hown, hts⟩ (kL_state l hl0 dC dI cyI cyB cyO cyA cyT cyW cyZ ua ub up aw as' kS H.size hc hE9) (vx_cwSW 2 hts (gv_L_state_181 hgb) rfl rfl rfl (by decide +kernel) ⟨(Nat.le_of_ble_eq_true rfl), (Nat.le_of_ble_eq_true rfl)⟩) (epre_left hEV (hB.perm (wperm (L' := [cU cyI cyB cyO ua ub up aw as' pa β υ ω sid τs n, cX cyI cyA cyT wa ks ts kr ta sa ra K mT Ns ζ κ Φ Ψ]) [0, 1] (by decide +kernel) rfl rfl)) hA hK [.ref ua, .int v512]) hB hA (wperm (L' := [cU cyI cyB cyO ua ub up aw as' pa β υ ω sid τs n, cX cyI cyA cyT wa ks ts kr ta sa ra K mT Ns ζ κ Φ Ψ]) [0, 1] (by decide +kernel) rfl rfl) rfl hl.1 rfl (Nat.le_of_ble_eq_true rfl) dL_agrees_43 ⟨by show _ ≤ 2000; omega, by show _ ≤ 12000; omega⟩ (fun r9 _ H locs hr9 hB => ?_)
          rw [hr9, er9]
          rw [xU_same (cU cyI cyB cyO ua ub up aw as' pa β υ ω sid τs n) o521] at hB
          have hB := hB.perm wF_un1
          have hB := hB.perm (wperm (L' := [cU cyI cyB cyO ua ub up aw as' pa β υ ω sid τs n, cX cyI cyA cyT wa ks ts kr ta sa ra K mT Ns ζ κ Φ Ψ]) [0, 1] (by decide +kernel) rfl rfl)
          refine lv_aload_n hx hb dL_agrees_46 rfl (lv_at hl 3 rfl) ?_
          refine lv_iload_n hx hb dL_agrees_47 rfl (lv_at hl 0 rfl) ?_
          obtain ⟨r523, hc, hg42⟩ := ob1_s hg42
          refine e_Vi (S := Unit) (As := [.int v512]) (rest := [.int r522]) (wc := cX cyI cyA cyT wa ks ts kr ta sa ra K mT Ns ζ κ Φ Ψ) (wr := (wF [cU cyI cyB cyO ua ub up aw as' pa β υ ω sid τs n])) (w1 := fun _ => cX cyI cyA cyT wa ks ts kr ta sa ra K mT Ns ζ κ Φ Ψ) ⟨hx, hb, hml, hown, hts⟩ (kX6_told l dC dI cyI cyA cyT wa ks ts kr ta sa ra H.size hc) (cwV 1 hts (gv_X6_told_183 hgb) rfl rfl rfl (by decide +kernel) ⟨(Nat.le_of_ble_eq_true rfl), (Nat.le_of_ble_eq_true rfl)⟩) (pcut_pre (hB.perm (wperm (L' := [cX cyI cyA cyT wa ks ts kr ta sa ra K mT Ns ζ κ Φ Ψ, cU cyI cyB cyO ua ub up aw as' pa β υ ω sid τs n]) [1, 0] (by decide +kernel) rfl rfl)) (hK.sub [0, 3, 4] rfl) (.ref wa :: [.int v512])) hB hA (g_recv (ci := 6) hK (hB.perm (wperm (L' := [cX cyI cyA cyT wa ks ts kr ta sa ra K mT Ns ζ κ Φ Ψ, cU cyI cyB cyO ua ub up aw as' pa β υ ω sid τs n]) [1, 0] (by decide +kernel) rfl rfl)) 0 rfl rfl rfl) (wperm (L' := [cX cyI cyA cyT wa ks ts kr ta sa ra K mT Ns ζ κ Φ Ψ, cU cyI cyB cyO ua ub up aw as' pa β υ ω sid τs n]) [1, 0] (by decide +kernel) rfl rfl) rfl hl.1 rfl (Nat.le_of_ble_eq_true rfl) dL_agrees_48 ⟨by show _ ≤ 2000; omega, by show _ ≤ 12000; omega⟩ (fun r9 _ H locs hr9 hB => ?_)
          rw [hr9]
          have hB := hB.perm wF_un1
          have hB := hB.perm (wperm (L' := [cU cyI cyB cyO ua ub up aw as' pa β υ ω sid τs n, cX cyI cyA cyT wa ks ts kr ta sa ra K mT Ns ζ κ Φ Ψ]) [1, 0] (by decide +kernel) rfl rfl)
          obtain ⟨v524, hJ526, hg42⟩ := ob1_s hg42
          have kJ527 : (v524 = 0 ∨ v524 = 1) → ∀ (H : Heap) (locs : List Loc) (ls : Array Slot), Bd (dC, dI) [(cyI, .int), (cyB, .byte), (cyO, .object "UndoJourneys$World"), (cyA, .array .int), (cyT, .object "UndoJourneysLaw$Trip"), (cyW, .object "UndoJourneysLaw$World"), (cyZ, .boolean)] (va_A (wF [cU cyI cyB cyO ua ub up aw as' pa β υ ω sid τs n, cX cyI cyA cyT wa ks ts kr ta sa ra K mT Ns ζ κ Φ Ψ]) s.heap.size) s (wF [cU cyI cyB cyO ua ub up aw as' pa β υ ω sid τs n, cX cyI cyA cyT wa ks ts kr ta sa ra K mT Ns ζ κ Φ Ψ]) H locs → lv_has ls 7 [(3, .int v512), (0, .ref ua), (1, .ref wa)] → W p l e (headSpec wqL_agrees rmL_agrees).room s m ([.ref ua, .ref wa] : List Value).toArray below meth c H locs (cv514 + 1) (scv514 + 6) (MQ below (QzF (dC, dI) [(cyI, .int), (cyB, .byte), (cyO, .object "UndoJourneys$World"), (cyA, .array .int), (cyT, .object "UndoJourneysLaw$Trip"), (cyW, .object "UndoJourneysLaw$World"), (cyZ, .boolean)] (wF [cU cyI cyB cyO ua ub up aw as' pa β υ ω sid τs n, cX cyI cyA cyT wa ks ts kr ta sa ra K mT Ns ζ κ Φ Ψ]) (wF [cU cyI cyB cyO ua ub up aw as' pa β υ ω sid τs n, cX cyI cyA cyT wa ks ts kr ta sa ra K mT Ns ζ κ Φ Ψ]) s.heap.size r) ([.ref ua, .ref wa] : List Value).toArray s 2000 12000 (va_A (wF [cU cyI cyB cyO ua ub up aw as' pa β υ ω sid τs n, cX cyI cyA cyT wa ks ts kr ta sa ra K mT Ns ζ κ Φ Ψ]) s.heap.size)) (F0 m 59 ls [.int v524]) := by
            intro z525 H locs ls hB hl
            refine lv_istore_n (lv' := [(2, .int v524), (3, .int v512), (0, .ref ua), (1, .ref wa)]) hx hb dL_agrees_59 rfl hl (by decide) rfl (fun ls hl => ?_)
            refine lv_iinc (v := (v512 + (1 : Int32))) (lv' := [(3, .int (v512 + (1 : Int32))), (2, .int v524), (0, .ref ua), (1, .ref wa)]) hx hb dL_agrees_60 hl (k := 1) rfl rfl (by decide) rfl (fun ls hl => ?_)
            refine lv_goto (tgt := 31) hx hb dL_agrees_63 (by decide) ?_
            have hL41 := el1_r (inj1 hg42) hL41
            refine W.widen (k := 1 + (11 - n9) * 1) (n := 6 + (11 - n9) * 6) (by omega) (by omega) ?_
            exact ih9 _ _ _ _ _ (by omega) hL41 hB (lv_sub hl [0, 1, 2, 3] rfl)
          refine lv_icmp_ne (tgt := 58) hx hb dL_agrees_51 (by decide) (fun c528 => ?_) (fun c528 => ?_)
          · have hJ526 := ite_f c528 hJ526
            refine lv_iconst (v := (0 : Int32)) hx hb dL_agrees_58 (by decide) ?_
            have e0 := inj1 hJ526
            subst e0
            exact kJ527 (Or.inl rfl) _ _ _ hB (lv_sub hl [0, 2, 3] rfl)
          · have hJ526 := ite_t c528 hJ526
            refine lv_iconst (v := (1 : Int32)) hx hb dL_agrees_54 (by decide) ?_
            refine lv_goto (tgt := 59) hx hb dL_agrees_55 (by decide) ?_
            have e0 := inj1 hJ526
            subst e0
            exact kJ527 (Or.inr rfl) _ _ _ hB (lv_sub hl [0, 2, 3] rfl)
        have kFt517 : t517 = false → ∀ (H : Heap) (locs : List Loc), Bd (dC, dI) [(cyI, .int), (cyB, .byte), (cyO, .object "UndoJourneys$World"), (cyA, .array .int), (cyT, .object "UndoJourneysLaw$Trip"), (cyW, .object "UndoJourneysLaw$World"), (cyZ, .boolean)] (va_A (wF [cU cyI cyB cyO ua ub up aw as' pa β υ ω sid τs n, cX cyI cyA cyT wa ks ts kr ta sa ra K mT Ns ζ κ Φ Ψ]) s.heap.size) s (wF [cU cyI cyB cyO ua ub up aw as' pa β υ ω sid τs n, cX cyI cyA cyT wa ks ts kr ta sa ra K mT Ns ζ κ Φ Ψ]) H locs → W p l e (headSpec wqL_agrees rmL_agrees).room s m ([.ref ua, .ref wa] : List Value).toArray below meth c H locs (cv514 + 0) (scv514 + 0) (MQ below (QzF (dC, dI) [(cyI, .int), (cyB, .byte), (cyO, .object "UndoJourneys$World"), (cyA, .array .int), (cyT, .object "UndoJourneysLaw$Trip"), (cyW, .object "UndoJourneysLaw$World"), (cyZ, .boolean)] (wF [cU cyI cyB cyO ua ub up aw as' pa β υ ω sid τs n, cX cyI cyA cyT wa ks ts kr ta sa ra K mT Ns ζ κ Φ Ψ]) (wF [cU cyI cyB cyO ua ub up aw as' pa β υ ω sid τs n, cX cyI cyA cyT wa ks ts kr ta sa ra K mT Ns ζ κ Φ Ψ]) s.heap.size r) ([.ref ua, .ref wa] : List Value).toArray s 2000 12000 (va_A (wF [cU cyI cyB cyO ua ub up aw as' pa β υ ω sid τs n, cX cyI cyA cyT wa ks ts kr ta sa ra K mT Ns ζ κ Φ Ψ]) s.heap.size)) (F0 m 66 ls []) := by
          intro ht H locs hB
          have hg42 := cnd_f ht hg42
          have hL41 := el1_l (inj1 hg42) hL41
          refine W.widen (k := 12) (n := 72) (by omega) (by omega) ?_
          have e0 := inj1 hL41
          subst e0
          exact kE39 _ _ _ hB (lv_sub hl [1, 2, 3] rfl)
        refine lv_icmp_ge (tgt := 66) hx hb dL_agrees_34 (by decide) (fun c519 => ?_) (fun c519 => ?_)
        · have hD518 := ite_t c519 hD518
          have e0 := inj1 hD518
          exact kFt517 e0.symm _ _ hB
        · have hD518 := ite_f c519 hD518
          refine lv_iload_n hx hb dL_agrees_37 rfl (lv_at hl 1 rfl) ?_
          refine lv_if_eq (tgt := 66) hx hb dL_agrees_38 (by decide) (fun c520 => ?_) (fun c520 => ?_)
          · have hD518 := ite_t c520 hD518
            have e0 := inj1 hD518
            exact kFt517 e0.symm _ _ hB
          · have hD518 := ite_f c520 hD518
            have e0 := inj1 hD518
            exact kTt517 e0.symm _ _ hB
    refine W.widen (k := 1 + (11 - 11) * 1) (n := 6 + (11 - 11) * 6) (by omega) (by omega) ?_
    exact key40 11 _ _ _ _ _ (Nat.le_refl _) hL41 hB (lv_sub hl [0, 1, 2, 3] rfl)
  obtain ⟨t7, hD8, hJ5⟩ := ob1_s hJ5
  have kTt7 : t7 = true → ∀ (H : Heap) (locs : List Loc), Bd (dC, dI) [(cyI, .int), (cyB, .byte), (cyO, .object "UndoJourneys$World"), (cyA, .array .int), (cyT, .object "UndoJourneysLaw$Trip"), (cyW, .object "UndoJourneysLaw$World"), (cyZ, .boolean)] (va_A (wF [cU cyI cyB cyO ua ub up aw as' pa β υ ω sid τs n, cX cyI cyA cyT wa ks ts kr ta sa ra K mT Ns ζ κ Φ Ψ]) s.heap.size) s (wF [cU cyI cyB cyO ua ub up aw as' pa β υ ω sid τs n, cX cyI cyA cyT wa ks ts kr ta sa ra K mT Ns ζ κ Φ Ψ]) H locs → W p l e (headSpec wqL_agrees rmL_agrees).room s m ([.ref ua, .ref wa] : List Value).toArray below meth c H locs 1 6 (MQ below (QzF (dC, dI) [(cyI, .int), (cyB, .byte), (cyO, .object "UndoJourneys$World"), (cyA, .array .int), (cyT, .object "UndoJourneysLaw$Trip"), (cyW, .object "UndoJourneysLaw$World"), (cyZ, .boolean)] (wF [cU cyI cyB cyO ua ub up aw as' pa β υ ω sid τs n, cX cyI cyA cyT wa ks ts kr ta sa ra K mT Ns ζ κ Φ Ψ]) (wF [cU cyI cyB cyO ua ub up aw as' pa β υ ω sid τs n, cX cyI cyA cyT wa ks ts kr ta sa ra K mT Ns ζ κ Φ Ψ]) s.heap.size r) ([.ref ua, .ref wa] : List Value).toArray s 2000 12000 (va_A (wF [cU cyI cyB cyO ua ub up aw as' pa β υ ω sid τs n, cX cyI cyA cyT wa ks ts kr ta sa ra K mT Ns ζ κ Φ Ψ]) s.heap.size)) (F0 m 23 ls []) := by
    intro ht H locs hB
    have hJ5 := cnd_t ht hJ5
    refine lv_iconst (v := (1 : Int32)) hx hb dL_agrees_23 (by decide) ?_
    refine lv_goto (tgt := 28) hx hb dL_agrees_24 (by decide) ?_
    have e0 := inj1 hJ5
    subst e0
    exact kJ6 (Or.inr rfl) _ _ _ hB (lv_sub hl [0, 1] rfl)
  have kFt7 : t7 = false → ∀ (H : Heap) (locs : List Loc), Bd (dC, dI) [(cyI, .int), (cyB, .byte), (cyO, .object "UndoJourneys$World"), (cyA, .array .int), (cyT, .object "UndoJourneysLaw$Trip"), (cyW, .object "UndoJourneysLaw$World"), (cyZ, .boolean)] (va_A (wF [cU cyI cyB cyO ua ub up aw as' pa β υ ω sid τs n, cX cyI cyA cyT wa ks ts kr ta sa ra K mT Ns ζ κ Φ Ψ]) s.heap.size) s (wF [cU cyI cyB cyO ua ub up aw as' pa β υ ω sid τs n, cX cyI cyA cyT wa ks ts kr ta sa ra K mT Ns ζ κ Φ Ψ]) H locs → W p l e (headSpec wqL_agrees rmL_agrees).room s m ([.ref ua, .ref wa] : List Value).toArray below meth c H locs 1 6 (MQ below (QzF (dC, dI) [(cyI, .int), (cyB, .byte), (cyO, .object "UndoJourneys$World"), (cyA, .array .int), (cyT, .object "UndoJourneysLaw$Trip"), (cyW, .object "UndoJourneysLaw$World"), (cyZ, .boolean)] (wF [cU cyI cyB cyO ua ub up aw as' pa β υ ω sid τs n, cX cyI cyA cyT wa ks ts kr ta sa ra K mT Ns ζ κ Φ Ψ]) (wF [cU cyI cyB cyO ua ub up aw as' pa β υ ω sid τs n, cX cyI cyA cyT wa ks ts kr ta sa ra K mT Ns ζ κ Φ Ψ]) s.heap.size r) ([.ref ua, .ref wa] : List Value).toArray s 2000 12000 (va_A (wF [cU cyI cyB cyO ua ub up aw as' pa β υ ω sid τs n, cX cyI cyA cyT wa ks ts kr ta sa ra K mT Ns ζ κ Φ Ψ]) s.heap.size)) (F0 m 27 ls []) := by
    intro ht H locs hB
    have hJ5 := cnd_f ht hJ5
    refine lv_iconst (v := (0 : Int32)) hx hb dL_agrees_27 (by decide) ?_
    have e0 := inj1 hJ5
    subst e0
    exact kJ6 (Or.inl rfl) _ _ _ hB (lv_sub hl [0, 1] rfl)
  refine lv_if_ne (tgt := 27) hx hb dL_agrees_9 (by decide) (fun c9 => ?_) (fun c9 => ?_)
  · have hD8 := ite_f c9 hD8
    have e0 := inj1 hD8
    refine W.widen (k := 1) (n := 6) (by omega) (by omega) ?_
    exact kFt7 e0.symm _ _ hB
  · have hD8 := ite_t c9 hD8
    refine lv_aload_n hx hb dL_agrees_12 rfl (lv_at hl 0 rfl) ?_
    refine lv_bipush (v := (10 : Int32)) hx hb dL_agrees_13 (by decide) ?_
    obtain ⟨o10, hc, hD8⟩ := ob1_s hD8
    obtain ⟨hc, hE9⟩ := hEl_s hc
    obtain ⟨r11, er9, hD8⟩ := ob1_s hD8
    have er9 := inj1 er9
    refine e_Wi (S := Unit) (As := [.ref ua, .int (10 : Int32)]) (rest := []) (wc := cU cyI cyB cyO ua ub up aw as' pa β υ ω sid τs n) (wr := (wF [cX cyI cyA cyT wa ks ts kr ta sa ra K mT Ns ζ κ Φ Ψ])) (w1 := fun _ => xU (cU cyI cyB cyO ua ub up aw as' pa β υ ω sid τs n) (fun x => (cU cyI cyB cyO ua ub up aw as' pa β υ ω sid τs n)) o10) ⟨hx, hb, hml, hown, hts⟩ (kL_state l hl0 dC dI cyI cyB cyO cyA cyT cyW cyZ ua ub up aw as' kS H.size hc hE9) (vx_cwSW 2 hts (gv_L_state_181 hgb) rfl rfl rfl (by decide +kernel) ⟨(Nat.le_of_ble_eq_true rfl), (Nat.le_of_ble_eq_true rfl)⟩) (epre_left hEV (hB.perm (wperm (L' := [cU cyI cyB cyO ua ub up aw as' pa β υ ω sid τs n, cX cyI cyA cyT wa ks ts kr ta sa ra K mT Ns ζ κ Φ Ψ]) [0, 1] (by decide +kernel) rfl rfl)) hA hK [.ref ua, .int (10 : Int32)]) hB hA (wperm (L' := [cU cyI cyB cyO ua ub up aw as' pa β υ ω sid τs n, cX cyI cyA cyT wa ks ts kr ta sa ra K mT Ns ζ κ Φ Ψ]) [0, 1] (by decide +kernel) rfl rfl) rfl hl.1 rfl (Nat.le_of_ble_eq_true rfl) dL_agrees_15 ⟨(Nat.le_of_ble_eq_true rfl), (Nat.le_of_ble_eq_true rfl)⟩ (fun r9 _ H locs hr9 hB => ?_)
    rw [hr9, er9]
    rw [xU_same (cU cyI cyB cyO ua ub up aw as' pa β υ ω sid τs n) o10] at hB
    have hB := hB.perm wF_un1
    have hB := hB.perm (wperm (L' := [cU cyI cyB cyO ua ub up aw as' pa β υ ω sid τs n, cX cyI cyA cyT wa ks ts kr ta sa ra K mT Ns ζ κ Φ Ψ]) [0, 1] (by decide +kernel) rfl rfl)
    refine lv_ldc (v := (-2000000098 : Int32)) hx hb hown hq0 dL_agrees_18 ?_
    refine lv_icmp_ne (tgt := 27) hx hb dL_agrees_20 (by decide) (fun c12 => ?_) (fun c12 => ?_)
    · have hD8 := ite_f c12 hD8
      have e0 := inj1 hD8
      exact kFt7 e0.symm _ _ hB
    · have hD8 := ite_t c12 hD8
      have e0 := inj1 hD8
      exact kTt7 e0.symm _ _ hB
