abbrev rmL_loadText : Room := { frames := 11, cells := 14, slots := 312, locals := 321 }

set_option maxHeartbeats 8000000 in
set_option maxRecDepth 100000 in
theorem kL_loadText (l : Launch) (hl0 : l.stackTraces = false) (dC : Nat → ClassId) (dI : Nat → Nat → Nat) (cyI cyB cyO cyA cyT cyW cyZ : ClassId) (ua ub up : Nat) (aw as' : Nat → Nat → Nat) (kS : Nat → Nat) (bu : Nat) (sz : Nat) {fu : Nat} {τs : WS} {n : Nat} {pa : PA} {β : FS} {υ : MS} {ω : WS} {sid : PA} {b : FS} {r : Int32} {pa_ : PA} {β_ : FS} {υ_ : MS} {ω_ : WS} {sid_ : PA} {τs_ : WS} {n_ : Nat} {b_ : FS} (hf : mL_loadText fu τs n pa β υ ω sid b = some (r, pa_, β_, υ_, ω_, sid_, τs_, n_, b_)) : Met l yL_loadText wqL_loadText rmL_loadText (PcE (dC, dI) [(cyI, .int), (cyB, .byte), (cyO, .object "UndoJourneys$World"), (cyA, .array .int), (cyT, .object "UndoJourneysLaw$Trip"), (cyW, .object "UndoJourneysLaw$World"), (cyZ, .boolean)] kS (wF [cU cyI cyB cyO ua ub up aw as' pa β υ ω sid τs n, [(bu, .inl (cyI, 8, .inl b))]]) sz [.ref ua, .ref bu]) (va_Qi (fun r0 (_ : (Nat → Nat → Nat)) => r0 = r) (fun (u : (Nat → Nat → Nat)) t => BX (dC, dI) [(cyI, .int), (cyB, .byte), (cyO, .object "UndoJourneys$World"), (cyA, .array .int), (cyT, .object "UndoJourneysLaw$Trip"), (cyW, .object "UndoJourneysLaw$World"), (cyZ, .boolean)] (wF [cU cyI cyB cyO ua ub up aw as' pa β υ ω sid τs n, [(bu, .inl (cyI, 8, .inl b))]]) (wF [cU cyI cyB cyO ua ub up aw u pa_ β_ υ_ ω_ sid_ τs_ n_, [(bu, .inl (cyI, 8, .inl b_))]]) sz t) (va_A (wF [cU cyI cyB cyO ua ub up aw as' pa β υ ω sid τs n, [(bu, .inl (cyI, 8, .inl b))]]) sz)) 14 312 (va_A (wF [cU cyI cyB cyO ua ub up aw as' pa β υ ω sid τs n, [(bu, .inl (cyI, 8, .inl b))]]) sz) := by
  refine Met.ofW (cc := cL_loadText) (maxL := 3) (ret := (some .int)) (by decide) rfl ?_
  intro p e s m args below meth c s₁ B hml hv
  obtain ⟨rfl, ⟨hsz, hP, hK, hD0⟩, hEV⟩ := hv
  obtain ⟨hEX, hNC, hJ, hNw, hNw3, hAOw, hN6, hN5, hAOT, hAOW, hAOA, hCl⟩ := id hEV
  have hx := B.exec
  have hb := B.bytes
  have hr := B.returns
  have hts := atoms_spec (ws := wqL_loadText) B.pre
  have hgb : ∀ w ∈ gw_tbl, w ∈ wqL_loadText := fun w h => List.mem_cons_of_mem _ h
  have hown : s.vm.findClass RL = some m.cls := findClass_of_methodNamed B.named
  have hlocks := B.notSynchronized
  subst hsz
  have hA : ∀ q : Nat, s.heap.size ≤ q → va_A (wF [cU cyI cyB cyO ua ub up aw as' pa β υ ω sid τs n, [(bu, .inl (cyI, 8, .inl b))]]) s.heap.size q := fun q h => Or.inr h
  have hB : Bd (dC, dI) [(cyI, .int), (cyB, .byte), (cyO, .object "UndoJourneys$World"), (cyA, .array .int), (cyT, .object "UndoJourneysLaw$Trip"), (cyW, .object "UndoJourneysLaw$World"), (cyZ, .boolean)] (va_A (wF [cU cyI cyB cyO ua ub up aw as' pa β υ ω sid τs n, [(bu, .inl (cyI, 8, .inl b))]]) s.heap.size) s (wF [cU cyI cyB cyO ua ub up aw as' pa β υ ω sid τs n, [(bu, .inl (cyI, 8, .inl b))]]) s.heap [] := ⟨hP, hD0.self, va_S.rf⟩
  have hl := lv_entry [.ref ua, .ref bu] (n := 3) (Nat.le_of_ble_eq_true rfl)
  rw [lg_entry_eq]
  generalize (lg_sl [.ref ua, .ref bu] ++ List.replicate (3 - (lg_sl [.ref ua, .ref bu]).length) Slot.unset).toArray = ls at hl ⊢
  have hl : lv_has ls 3 [(0, .ref ua), (1, .ref bu)] := hl
  clear hP hD0
  suffices main : ∀ (H : Heap) (locs : List Loc), Bd (dC, dI) [(cyI, .int), (cyB, .byte), (cyO, .object "UndoJourneys$World"), (cyA, .array .int), (cyT, .object "UndoJourneysLaw$Trip"), (cyW, .object "UndoJourneysLaw$World"), (cyZ, .boolean)] (va_A (wF [cU cyI cyB cyO ua ub up aw as' pa β υ ω sid τs n, [(bu, .inl (cyI, 8, .inl b))]]) s.heap.size) s (wF [cU cyI cyB cyO ua ub up aw as' pa β υ ω sid τs n, [(bu, .inl (cyI, 8, .inl b))]]) H locs → W p l e (headSpec wqL_loadText rmL_loadText).room s m ([.ref ua, .ref bu] : List Value).toArray below meth c H locs 0 0 (MQ below (va_Qi (fun r0 (_ : (Nat → Nat → Nat)) => r0 = r) (fun (u : (Nat → Nat → Nat)) t => BX (dC, dI) [(cyI, .int), (cyB, .byte), (cyO, .object "UndoJourneys$World"), (cyA, .array .int), (cyT, .object "UndoJourneysLaw$Trip"), (cyW, .object "UndoJourneysLaw$World"), (cyZ, .boolean)] (wF [cU cyI cyB cyO ua ub up aw as' pa β υ ω sid τs n, [(bu, .inl (cyI, 8, .inl b))]]) (wF [cU cyI cyB cyO ua ub up aw u pa_ β_ υ_ ω_ sid_ τs_ n_, [(bu, .inl (cyI, 8, .inl b_))]]) s.heap.size t) (va_A (wF [cU cyI cyB cyO ua ub up aw as' pa β υ ω sid τs n, [(bu, .inl (cyI, 8, .inl b))]]) s.heap.size)) ([.ref ua, .ref bu] : List Value).toArray s 14 312 (va_A (wF [cU cyI cyB cyO ua ub up aw as' pa β υ ω sid τs n, [(bu, .inl (cyI, 8, .inl b))]]) s.heap.size)) (F0 m 0 ls []) from main _ _ hB
  clear hB
  intro H locs hB
  unfold mL_loadText at hf
  refine lv_aload_n hx hb dL_loadText_0 rfl (lv_at hl 1 rfl) ?_
  refine lv_iconst (v := (0 : Int32)) hx hb dL_loadText_1 (by decide) ?_
  obtain ⟨x1, e9, hf⟩ := ob1_s hf
  refine g_iald hx hb hK (hB.perm (wperm (L' := [[(bu, .inl (cyI, 8, .inl b))], cU cyI cyB cyO ua ub up aw as' pa β υ ω sid τs n]) [1, 0] (by decide +kernel) rfl rfl)) 0 0 rfl rfl (rd_s e9) dL_loadText_2 ?_
  refine lv_istore_n (lv' := [(2, .int x1), (0, .ref ua), (1, .ref bu)]) hx hb dL_loadText_3 rfl hl (by decide) rfl (fun ls hl => ?_)
  refine lv_iload_n hx hb dL_loadText_4 rfl (lv_at hl 0 rfl) ?_
  refine lv_bipush (v := (20 : Int32)) hx hb dL_loadText_5 (by decide) ?_
  refine lv_irem hx hb dL_loadText_7 (by decide) ?_
  obtain ⟨β2, υ3, b4, hJ5, hf⟩ := ob3_s hf
  have kJ6 : ∀ (H : Heap) (locs : List Loc) (ls : Array Slot), Bd (dC, dI) [(cyI, .int), (cyB, .byte), (cyO, .object "UndoJourneys$World"), (cyA, .array .int), (cyT, .object "UndoJourneysLaw$Trip"), (cyW, .object "UndoJourneysLaw$World"), (cyZ, .boolean)] (va_A (wF [cU cyI cyB cyO ua ub up aw as' pa β υ ω sid τs n, [(bu, .inl (cyI, 8, .inl b))]]) s.heap.size) s (wF [cU cyI cyB cyO ua ub up aw as' pa β2 υ3 ω sid τs n, [(bu, .inl (cyI, 8, .inl b4))]]) H locs → lv_has ls 3 [(2, .int x1), (0, .ref ua), (1, .ref bu)] → W p l e (headSpec wqL_loadText rmL_loadText).room s m ([.ref ua, .ref bu] : List Value).toArray below meth c H locs 0 0 (MQ below (va_Qi (fun r0 (_ : (Nat → Nat → Nat)) => r0 = r) (fun (u : (Nat → Nat → Nat)) t => BX (dC, dI) [(cyI, .int), (cyB, .byte), (cyO, .object "UndoJourneys$World"), (cyA, .array .int), (cyT, .object "UndoJourneysLaw$Trip"), (cyW, .object "UndoJourneysLaw$World"), (cyZ, .boolean)] (wF [cU cyI cyB cyO ua ub up aw as' pa β υ ω sid τs n, [(bu, .inl (cyI, 8, .inl b))]]) (wF [cU cyI cyB cyO ua ub up aw u pa_ β_ υ_ ω_ sid_ τs_ n_, [(bu, .inl (cyI, 8, .inl b_))]]) s.heap.size t) (va_A (wF [cU cyI cyB cyO ua ub up aw as' pa β υ ω sid τs n, [(bu, .inl (cyI, 8, .inl b))]]) s.heap.size)) ([.ref ua, .ref bu] : List Value).toArray s 14 312 (va_A (wF [cU cyI cyB cyO ua ub up aw as' pa β υ ω sid τs n, [(bu, .inl (cyI, 8, .inl b))]]) s.heap.size)) (F0 m 16 ls []) := by
    intro H locs ls hB hl
    refine lv_aload_n hx hb dL_loadText_16 rfl (lv_at hl 2 rfl) ?_
    refine lv_iconst (v := (0 : Int32)) hx hb dL_loadText_17 (by decide) ?_
    refine lv_iconst (v := (0 : Int32)) hx hb dL_loadText_18 (by decide) ?_
    obtain ⟨b11, e9, hf⟩ := ob1_s hf
    obtain ⟨hi, e9⟩ := wr_s e9
    refine g_iast hx hb hK (hB.perm (wperm (L' := [[(bu, .inl (cyI, 8, .inl b4))], cU cyI cyB cyO ua ub up aw as' pa β2 υ3 ω sid τs n]) [1, 0] (by decide +kernel) rfl rfl)) 0 0 rfl rfl hi e9 dL_loadText_19 (w2 := (wF [[(bu, .inl (cyI, 8, .inl b11))], cU cyI cyB cyO ua ub up aw as' pa β2 υ3 ω sid τs n])) rfl (fun H locs hB => ?_)
    have hB := hB.perm (wperm (L' := [cU cyI cyB cyO ua ub up aw as' pa β2 υ3 ω sid τs n, [(bu, .inl (cyI, 8, .inl b11))]]) [1, 0] (by decide +kernel) rfl rfl)
    refine lv_aload_n hx hb dL_loadText_20 rfl (lv_at hl 1 rfl) ?_
    refine lv_iload_n hx hb dL_loadText_21 rfl (lv_at hl 0 rfl) ?_
    obtain ⟨o12, hc, hf⟩ := ob1_s hf
    obtain ⟨hc, hE9⟩ := hEl_s hc
    obtain ⟨r13, er9, hf⟩ := ob1_s hf
    have er9 := inj1 er9
    obtain ⟨pa14, epa14, hf⟩ := ob1_s hf
    have epa14 := inj1 epa14
    obtain ⟨υ15, eυ15, hf⟩ := ob1_s hf
    have eυ15 := inj1 eυ15
    obtain ⟨ω16, eω16, hf⟩ := ob1_s hf
    have eω16 := inj1 eω16
    obtain ⟨sid17, esid17, hf⟩ := ob1_s hf
    have esid17 := inj1 esid17
    obtain ⟨τs18, eτs18, hf⟩ := ob1_s hf
    have eτs18 := inj1 eτs18
    obtain ⟨n19, en19, hf⟩ := ob1_s hf
    have en19 := inj1 en19
    refine e_Wi (S := Nat → Nat → Nat) (As := [.ref ua, .int x1]) (rest := []) (wc := cU cyI cyB cyO ua ub up aw as' pa β2 υ3 ω sid τs n) (wr := (wF [[(bu, .inl (cyI, 8, .inl b11))]])) (w1 := (fun u20 => xU (cU cyI cyB cyO ua ub up aw as' pa β2 υ3 ω sid τs n) (fun x => ((fun x (as2 : Nat → Nat → Nat) => cU cyI cyB cyO ua ub up aw as2 x.2.1 β2 x.2.2.1 x.2.2.2.1 x.2.2.2.2.1 x.2.2.2.2.2.1 x.2.2.2.2.2.2)) x u20) o12)) ⟨hx, hb, hml, hown, hts⟩ (kL_load l hl0 dC dI cyI cyB cyO cyA cyT cyW cyZ ua ub up aw as' kS H.size hc hE9) (vx_cwSW 2 hts (gv_L_load_19 hgb) rfl rfl rfl (by decide +kernel) ⟨(Nat.le_of_ble_eq_true rfl), (Nat.le_of_ble_eq_true rfl)⟩) (epre_left hEV (hB.perm (wperm (L' := [cU cyI cyB cyO ua ub up aw as' pa β2 υ3 ω sid τs n, [(bu, .inl (cyI, 8, .inl b11))]]) [0, 1] (by decide +kernel) rfl rfl)) hA hK [.ref ua, .int x1]) hB hA (wperm (L' := [cU cyI cyB cyO ua ub up aw as' pa β2 υ3 ω sid τs n, [(bu, .inl (cyI, 8, .inl b11))]]) [0, 1] (by decide +kernel) rfl rfl) rfl hl.1 rfl (Nat.le_of_ble_eq_true rfl) dL_loadText_22 ⟨(Nat.le_of_ble_eq_true rfl), (Nat.le_of_ble_eq_true rfl)⟩ (fun r9 u20 H locs hr9 hB => ?_)
    rw [hr9, er9]
    have e9 : (fun u20 => xU (cU cyI cyB cyO ua ub up aw as' pa β2 υ3 ω sid τs n) (fun x => ((fun x (as2 : Nat → Nat → Nat) => cU cyI cyB cyO ua ub up aw as2 x.2.1 β2 x.2.2.1 x.2.2.2.1 x.2.2.2.2.1 x.2.2.2.2.2.1 x.2.2.2.2.2.2)) x u20) o12) u20 = cU cyI cyB cyO ua ub up aw (xV as' (fun _ => u20) o12) pa14 β2 υ15 ω16 sid17 τs18 n19 := by rw [← epa14, ← eυ15, ← eω16, ← esid17, ← eτs18, ← en19]; cases o12 <;> rfl
    have hB := (congrArg (fun z : va_W => Bd (dC, dI) [(cyI, .int), (cyB, .byte), (cyO, .object "UndoJourneys$World"), (cyA, .array .int), (cyT, .object "UndoJourneysLaw$Trip"), (cyW, .object "UndoJourneysLaw$World"), (cyZ, .boolean)] (va_A (wF [cU cyI cyB cyO ua ub up aw as' pa β υ ω sid τs n, [(bu, .inl (cyI, 8, .inl b))]]) s.heap.size) s (z ++ (wF [[(bu, .inl (cyI, 8, .inl b11))]])) H locs) e9).mp hB
    generalize (xV as' (fun _ => u20) o12) = asn21 at hB
    have hB := hB.perm wF_un1
    have hB := hB.perm (wperm (L' := [cU cyI cyB cyO ua ub up aw asn21 pa14 β2 υ15 ω16 sid17 τs18 n19, [(bu, .inl (cyI, 8, .inl b11))]]) [0, 1] (by decide +kernel) rfl rfl)
    obtain ⟨e0, e1, e2, e3, e4, e5, e6, e7, e8⟩ := inj9 hf
    subst e0
    subst e1
    subst e2
    subst e3
    subst e4
    subst e5
    subst e6
    subst e7
    subst e8
    exact g_liretY (u := (asn21)) hx hb hr hlocks hK hB rfl (Nat.le_of_ble_eq_true rfl) (Nat.le_of_ble_eq_true rfl) dL_loadText_25
  refine lv_if_le (tgt := 16) hx hb dL_loadText_8 (by decide) (fun c7 => ?_) (fun c7 => ?_)
  · have hJ5 := ite_t c7 hJ5
    obtain ⟨e0, e1, e2⟩ := inj3 hJ5
    subst e0
    subst e1
    subst e2
    exact kJ6 _ _ _ hB (lv_sub hl [0, 1, 2] rfl)
  · have hJ5 := ite_f c7 hJ5
    refine lv_aload_n hx hb dL_loadText_11 rfl (lv_at hl 1 rfl) ?_
    refine lv_aload_n hx hb dL_loadText_12 rfl (lv_at hl 2 rfl) ?_
    obtain ⟨β8, υ9, b10, hc, hJ5⟩ := ob3_s hJ5
    refine e_Sv (S := Unit) (As := [.ref ua, .ref bu]) (rest := []) (wc := (wF [cU cyI cyB cyO ua ub up aw as' pa β υ ω sid τs n, [(bu, .inl (cyI, 8, .inl b))]])) (wr := (wF [])) (w1 := fun _ => (wF [cU cyI cyB cyO ua ub up aw as' pa β8 υ9 ω sid τs n, [(bu, .inl (cyI, 8, .inl b10))]])) ⟨hx, hb, hml, hown, hts⟩ (kL_flush l hl0 dC dI cyI cyB cyO cyA cyT cyW cyZ ua ub up aw as' kS bu H.size hc) (va_cwS 2 hts (gv_L_flush_7 hgb) rfl rfl rfl (by decide +kernel) ⟨(Nat.le_of_ble_eq_true rfl), (Nat.le_of_ble_eq_true rfl)⟩) (epre_left hEV (hB.perm ((wperm (L' := [cU cyI cyB cyO ua ub up aw as' pa β υ ω sid τs n, [(bu, .inl (cyI, 8, .inl b))]]) [0, 1] (by decide +kernel) rfl rfl).trans (wF_cut (a := [cU cyI cyB cyO ua ub up aw as' pa β υ ω sid τs n, [(bu, .inl (cyI, 8, .inl b))]]) (b := [])))) hA hK [.ref ua, .ref bu]) hB hA ((wperm (L' := [cU cyI cyB cyO ua ub up aw as' pa β υ ω sid τs n, [(bu, .inl (cyI, 8, .inl b))]]) [0, 1] (by decide +kernel) rfl rfl).trans (wF_cut (a := [cU cyI cyB cyO ua ub up aw as' pa β υ ω sid τs n, [(bu, .inl (cyI, 8, .inl b))]]) (b := []))) rfl hl.1 rfl (Nat.le_of_ble_eq_true rfl) dL_loadText_13 ⟨(Nat.le_of_ble_eq_true rfl), (Nat.le_of_ble_eq_true rfl)⟩ (fun _ H locs hr9 hB => ?_)
    have hB := hB.perm wF_uncut
    have hB := hB.perm (wperm (L' := [cU cyI cyB cyO ua ub up aw as' pa β8 υ9 ω sid τs n, [(bu, .inl (cyI, 8, .inl b10))]]) [0, 1] (by decide +kernel) rfl rfl)
    obtain ⟨e0, e1, e2⟩ := inj3 hJ5
    subst e0
    subst e1
    subst e2
    exact kJ6 _ _ _ hB (lv_sub hl [0, 1, 2] rfl)
