/-! the law from 1020 to 1136 -/
set_option maxHeartbeats 16000000 in
set_option maxRecDepth 100000 in
theorem kR1020 {p : Program} {l : Launch} {e : Env} {s : State} {m : MethodId} {below : List Frame} {meth : Method} {c : Code} {sb L : Nat} {xs : Nat → Int32} {dC : Nat → ClassId} {dI : Nat → Nat → Nat} {cyI cyB cyO cyA cyT cyW cyZ : ClassId} {kS : Nat → Nat} (hx : p.tables.exec = Jvm.exec) (hb : c.code = cL_law) (hml : c.maxLocals = 25) (hown : s.vm.findClass RL = some m.cls) (hts : ∀ w ∈ lw_tbl, w.before #[Value.ref sb] s = true) (hX : va_X sb L xs s s.heap) (hbl : sb < s.heap.size) (hbA : ¬ va_A [] s.heap.size sb) (hl0 : l.stackTraces = false) (hK : va_K (dC, dI) vwCl [(cyI, .int), (cyB, .byte), (cyO, .object "UndoJourneys$World"), (cyA, .array .int), (cyT, .object "UndoJourneysLaw$Trip"), (cyW, .object "UndoJourneysLaw$World"), (cyZ, .boolean)] s) (hEV : EV kS (va_A [] s.heap.size) s s.heap) (hr : meth.sig.returnType = ret) (hlocks : meth.locks = false) {ua ub up bu rn nb wa ks ts : Nat} {aw : Nat → Nat → Nat} {kr ta sa : PA} {ra : Nat → PA} {K mT : Nat} {Ns : PA} (hKn : K < 7) (hmT : mT < 9) (hNs : ∀ k, k < mT → Ns k < 10) {as' : Nat → Nat → Nat} {pwa : PA} {pks : PA} {pts : PA} {pkr : Nat → PA} {pta : Nat → PA} {psa : Nat → PA} {pra : Nat → Nat → PA} {fu : Nat} {l8 : Int32} {l2 : Int32} {l1 : Int32} {τs : WS} {n : Nat} {pa : PA} {β : FS} {υ : MS} {ω : WS} {sid : PA} {b : FS} {sd : MS} {ζ : MS} {κ : MS} {Φ : WS} {Ψ : WS} {pb : (Nat → Option Nat)} {pζ : WS} {pκ : WS} {pΦ : (Nat → WS)} {pΨ : (Nat → WS)} {pc0 : Nat} {o1 : Int32} {τs_ : WS} {n_ : Nat} {pa_ : PA} {υ_ : MS} {ω_ : WS} {sid_ : PA} (hf : mL_law_R1020 fu K mT Ns l8 l2 l1 τs n pa β υ ω sid b sd ζ κ Φ Ψ pb pζ pκ pΦ pΨ pc0 = some (o1, τs_, n_, pa_, υ_, ω_, sid_)) {H : Heap} {locs : List Loc} {ls : Array Slot} {c00 s00 : Nat} (hc0 : c00 + 18021 ≤ 500000) (hs0 : s00 + 108354 ≤ 6000000) (hB : Bd (dC, dI) [(cyI, .int), (cyB, .byte), (cyO, .object "UndoJourneys$World"), (cyA, .array .int), (cyT, .object "UndoJourneysLaw$Trip"), (cyW, .object "UndoJourneysLaw$World"), (cyZ, .boolean)] (va_A [] s.heap.size) s (wF [cU cyI cyB cyO ua ub up aw as' pa β υ ω sid τs n, [(bu, .inl (cyI, 8, .inl b))], cN rn sd, cX cyI cyA cyT wa ks ts kr ta sa ra K mT Ns ζ κ Φ Ψ, [(nb, .inl (cyW, 9, .inr (.inr (.inr (.inr (fun j => (pb j).map pwa))))))], cXs cyI cyA cyT pwa pks pts pkr pta psa pra K mT Ns pζ pκ pΦ pΨ pc0]) H locs) (hl : lv_has ls 25 [(8, .int l8), (7, .ref nb), (3, .ref ua), (2, .int l2), (1, .int l1), (0, .ref sb)]) (nxt : ∀ (asq_ : Nat → Nat → Nat) (H : Heap) (locs : List Loc) (ls : Array Slot), Bd (dC, dI) [(cyI, .int), (cyB, .byte), (cyO, .object "UndoJourneys$World"), (cyA, .array .int), (cyT, .object "UndoJourneysLaw$Trip"), (cyW, .object "UndoJourneysLaw$World"), (cyZ, .boolean)] (va_A [] s.heap.size) s (wF [cU cyI cyB cyO ua ub up aw asq_ pa_ β υ_ ω_ sid_ τs_ n_, [(bu, .inl (cyI, 8, .inl b))], cN rn sd, cX cyI cyA cyT wa ks ts kr ta sa ra K mT Ns ζ κ Φ Ψ, [(nb, .inl (cyW, 9, .inr (.inr (.inr (.inr (fun j => (pb j).map pwa))))))], cXs cyI cyA cyT pwa pks pts pkr pta psa pra K mT Ns pζ pκ pΦ pΨ pc0]) H locs → lv_has ls 25 [(2, .int l2), (1, .int o1), (0, .ref sb)] → W p l e room_1 s m #[Value.ref sb] below meth c H locs (c00 + 18021) (s00 + 108354) (lw_Z below #[Value.ref sb] s) (F0 m 1136 ls [])) : W p l e room_1 s m #[Value.ref sb] below meth c H locs c00 s00 (lw_Z below #[Value.ref sb] s) (F0 m 1020 ls []) := by
  obtain ⟨hEX, hNC, hJ, hNw, hNw3, hAOw, hN6, hN5, hAOT, hAOW, hAOA, hCl⟩ := id hEV
  have hA : ∀ q : Nat, s.heap.size ≤ q → va_A [] s.heap.size q := fun q h => Or.inr h
  have hgb : ∀ w ∈ gw_tbl, w ∈ lw_tbl := gw_in
  have hq0 : (Cond.constant RL 42 (-2000000098)).before _ s = true := hts _ (tb3 175 rfl)
  have hq1 : (Cond.constant RL 52 (-2000000097)).before _ s = true := hts _ (tb3 225 rfl)
  show W p l e room_1 s m #[Value.ref sb] below meth c H locs (c00 + 0) (s00 + 0) (lw_Z below #[Value.ref sb] s) (F0 m 1020 ls [])
  have hrc_agrees : rmL_agrees.cells = 2000 := rfl
  have hrs_agrees : rmL_agrees.slots = 12000 := rfl
  have hrc_help : rmL_help.cells = 2 := rfl
  have hrs_help : rmL_help.slots = 12 := rfl
  have hrc_load : rmL_load.cells = 14 := rfl
  have hrs_load : rmL_load.slots = 312 := rfl
  have hrc_owed : rmL_owed.cells = 2 := rfl
  have hrs_owed : rmL_owed.slots = 12 := rfl
  have hrc_restsIn : rmL_restsIn.cells = 1 := rfl
  have hrs_restsIn : rmL_restsIn.slots = 6 := rfl
  have hrc_stateAfter : rmL_stateAfter.cells = 2 := rfl
  have hrs_stateAfter : rmL_stateAfter.slots = 12 := rfl
  unfold mL_law_R1020 at hf
  refine lv_iconst (v := (0 : Int32)) hx hb dL_law_1020 (by decide) ?_
  refine lv_istore (lv' := [(9, .int (0 : Int32)), (8, .int l8), (7, .ref nb), (3, .ref ua), (2, .int l2), (1, .int l1), (0, .ref sb)]) hx hb dL_law_1021 hl (by decide) rfl ?_
  clear hl ls
  intro ls hl
  replace hf := ob4_s hf
  obtain ⟨v47, υ48, ω49, sid50, hL53, hf⟩ := hf
  have kE51 : ∀  (H : Heap) (locs : List Loc) (ls : Array Slot), Bd (dC, dI) [(cyI, .int), (cyB, .byte), (cyO, .object "UndoJourneys$World"), (cyA, .array .int), (cyT, .object "UndoJourneysLaw$Trip"), (cyW, .object "UndoJourneysLaw$World"), (cyZ, .boolean)] (va_A [] s.heap.size) s (wF [cU cyI cyB cyO ua ub up aw as' pa β υ48 ω49 sid50 τs n, [(bu, .inl (cyI, 8, .inl b))], cN rn sd, cX cyI cyA cyT wa ks ts kr ta sa ra K mT Ns ζ κ Φ Ψ, [(nb, .inl (cyW, 9, .inr (.inr (.inr (.inr (fun j => (pb j).map pwa))))))], cXs cyI cyA cyT pwa pks pts pkr pta psa pra K mT Ns pζ pκ pΦ pΨ pc0]) H locs → lv_has ls 25 [(3, .ref ua), (2, .int l2), (1, .int v47), (0, .ref sb)] → W p l e room_1 s m #[Value.ref sb] below meth c H locs (c00 + 18000) (s00 + 108000) (lw_Z below #[Value.ref sb] s) (F0 m 1072 ls []) := by
    clear hB hl ls locs H
    intro H locs ls hB hl
    refine lv_iload_n hx hb dL_law_1072 rfl (lv_at hl 2 rfl) ?_
    replace hf := ob7_s hf
    obtain ⟨v56, τs58, n59, pa60, υ61, ω62, sid63, hJ64, hf⟩ := hf
    have kJ65 : (v56 = 0 ∨ v56 = 1) → ∀ (asq55 : Nat → Nat → Nat) (H : Heap) (locs : List Loc) (ls : Array Slot), Bd (dC, dI) [(cyI, .int), (cyB, .byte), (cyO, .object "UndoJourneys$World"), (cyA, .array .int), (cyT, .object "UndoJourneysLaw$Trip"), (cyW, .object "UndoJourneysLaw$World"), (cyZ, .boolean)] (va_A [] s.heap.size) s (wF [cU cyI cyB cyO ua ub up aw asq55 pa60 β υ61 ω62 sid63 τs58 n59, [(bu, .inl (cyI, 8, .inl b))], cN rn sd, cX cyI cyA cyT wa ks ts kr ta sa ra K mT Ns ζ κ Φ Ψ, [(nb, .inl (cyW, 9, .inr (.inr (.inr (.inr (fun j => (pb j).map pwa))))))], cXs cyI cyA cyT pwa pks pts pkr pta psa pra K mT Ns pζ pκ pΦ pΨ pc0]) H locs → lv_has ls 25 [(2, .int l2), (0, .ref sb)] → W p l e room_1 s m #[Value.ref sb] below meth c H locs (c00 + 18021) (s00 + 108354) (lw_Z below #[Value.ref sb] s) (F0 m 1135 ls [.int v56]) := by
      clear hB hl ls locs H
      intro z57 asq55 H locs ls hB hl
      refine lv_istore_n (lv' := [(1, .int v56), (2, .int l2), (0, .ref sb)]) hx hb dL_law_1135 rfl hl (by decide) rfl ?_
      clear hl ls
      intro ls hl
      obtain ⟨e0, e1, e2, e3, e4, e5, e6⟩ := inj7 hf
      subst e0
      subst e1
      subst e2
      subst e3
      subst e4
      subst e5
      subst e6
      exact nxt _ _ _ _ hB (lv_sub hl [1, 0, 2] rfl)
    replace hJ64 := ob7_s hJ64
    obtain ⟨t66, τs67, n68, pa69, υ70, ω71, sid72, hD73, hJ64⟩ := hJ64
    have kTt66 : t66 = true → ∀ (asq74 : Nat → Nat → Nat) (H : Heap) (locs : List Loc), Bd (dC, dI) [(cyI, .int), (cyB, .byte), (cyO, .object "UndoJourneys$World"), (cyA, .array .int), (cyT, .object "UndoJourneysLaw$Trip"), (cyW, .object "UndoJourneysLaw$World"), (cyZ, .boolean)] (va_A [] s.heap.size) s (wF [cU cyI cyB cyO ua ub up aw asq74 pa69 β υ70 ω71 sid72 τs67 n68, [(bu, .inl (cyI, 8, .inl b))], cN rn sd, cX cyI cyA cyT wa ks ts kr ta sa ra K mT Ns ζ κ Φ Ψ, [(nb, .inl (cyW, 9, .inr (.inr (.inr (.inr (fun j => (pb j).map pwa))))))], cXs cyI cyA cyT pwa pks pts pkr pta psa pra K mT Ns pζ pκ pΦ pΨ pc0]) H locs → W p l e room_1 s m #[Value.ref sb] below meth c H locs (c00 + 18021) (s00 + 108354) (lw_Z below #[Value.ref sb] s) (F0 m 1130 ls []) := by
      intro ht asq74 H locs hB
      have hJ64 := cnd_t ht hJ64
      refine lv_iconst (v := (1 : Int32)) hx hb dL_law_1130 (by decide) ?_
      refine lv_goto (tgt := 1135) hx hb dL_law_1131 (by decide) ?_
      obtain ⟨e0, e1, e2, e3, e4, e5, e6⟩ := inj7 hJ64
      subst e0
      subst e1
      subst e2
      subst e3
      subst e4
      subst e5
      subst e6
      exact kJ65 (Or.inr rfl) _ _ _ _ hB (lv_sub hl [1, 3] rfl)
    have kFt66 : t66 = false → ∀ (asq74 : Nat → Nat → Nat) (H : Heap) (locs : List Loc), Bd (dC, dI) [(cyI, .int), (cyB, .byte), (cyO, .object "UndoJourneys$World"), (cyA, .array .int), (cyT, .object "UndoJourneysLaw$Trip"), (cyW, .object "UndoJourneysLaw$World"), (cyZ, .boolean)] (va_A [] s.heap.size) s (wF [cU cyI cyB cyO ua ub up aw asq74 pa69 β υ70 ω71 sid72 τs67 n68, [(bu, .inl (cyI, 8, .inl b))], cN rn sd, cX cyI cyA cyT wa ks ts kr ta sa ra K mT Ns ζ κ Φ Ψ, [(nb, .inl (cyW, 9, .inr (.inr (.inr (.inr (fun j => (pb j).map pwa))))))], cXs cyI cyA cyT pwa pks pts pkr pta psa pra K mT Ns pζ pκ pΦ pΨ pc0]) H locs → W p l e room_1 s m #[Value.ref sb] below meth c H locs (c00 + 18021) (s00 + 108354) (lw_Z below #[Value.ref sb] s) (F0 m 1134 ls []) := by
      intro ht asq74 H locs hB
      have hJ64 := cnd_f ht hJ64
      refine lv_iconst (v := (0 : Int32)) hx hb dL_law_1134 (by decide) ?_
      obtain ⟨e0, e1, e2, e3, e4, e5, e6⟩ := inj7 hJ64
      subst e0
      subst e1
      subst e2
      subst e3
      subst e4
      subst e5
      subst e6
      exact kJ65 (Or.inl rfl) _ _ _ _ hB (lv_sub hl [1, 3] rfl)
    refine lv_if_eq (tgt := 1134) hx hb dL_law_1073 (by decide) (fun c75 => ?_) (fun c75 => ?_)
    · replace hD73 := ite_t c75 hD73
      obtain ⟨e0, e1, e2, e3, e4, e5, e6⟩ := inj7 hD73
      subst e1
      subst e2
      subst e3
      subst e4
      subst e5
      subst e6
      refine W.widen (k := (c00 + 18021)) (n := (s00 + 108354)) (by omega) (by omega) ?_
      exact kFt66 e0.symm _ _ _ hB
    · replace hD73 := ite_f c75 hD73
      refine lv_aload_n hx hb dL_law_1076 rfl (lv_at hl 0 rfl) ?_
      refine lv_iconst (v := (1 : Int32)) hx hb dL_law_1077 (by decide) ?_
      replace hD73 := ob1_s hD73
      obtain ⟨o76, hc, hD73⟩ := hD73
      obtain ⟨hc, hE9⟩ := hEl_s hc
      replace hD73 := ob1_s hD73
      obtain ⟨r77, er9, hD73⟩ := hD73
      replace er9 := inj1 er9
      replace hD73 := ob1_s hD73
      obtain ⟨pa78, epa78, hD73⟩ := hD73
      replace epa78 := inj1 epa78
      replace hD73 := ob1_s hD73
      obtain ⟨υ79, eυ79, hD73⟩ := hD73
      replace eυ79 := inj1 eυ79
      replace hD73 := ob1_s hD73
      obtain ⟨ω80, eω80, hD73⟩ := hD73
      replace eω80 := inj1 eω80
      replace hD73 := ob1_s hD73
      obtain ⟨sid81, esid81, hD73⟩ := hD73
      replace esid81 := inj1 esid81
      replace hD73 := ob1_s hD73
      obtain ⟨τs82, eτs82, hD73⟩ := hD73
      replace eτs82 := inj1 eτs82
      replace hD73 := ob1_s hD73
      obtain ⟨n83, en83, hD73⟩ := hD73
      replace en83 := inj1 en83
      refine e_Wi (S := Nat → Nat → Nat) (As := [.ref ua, .int (1 : Int32)]) (rest := []) (wc := cU cyI cyB cyO ua ub up aw as' pa β υ48 ω49 sid50 τs n) (wr := (wF [[(bu, .inl (cyI, 8, .inl b))], cN rn sd, cX cyI cyA cyT wa ks ts kr ta sa ra K mT Ns ζ κ Φ Ψ, [(nb, .inl (cyW, 9, .inr (.inr (.inr (.inr (fun j => (pb j).map pwa))))))], cXs cyI cyA cyT pwa pks pts pkr pta psa pra K mT Ns pζ pκ pΦ pΨ pc0])) (w1 := (fun u84 => xU (cU cyI cyB cyO ua ub up aw as' pa β υ48 ω49 sid50 τs n) (fun x => ((fun x (as2 : Nat → Nat → Nat) => cU cyI cyB cyO ua ub up aw as2 x.2.1 β x.2.2.1 x.2.2.2.1 x.2.2.2.2.1 x.2.2.2.2.2.1 x.2.2.2.2.2.2)) x u84) o76)) ⟨hx, hb, hml, hown, hts⟩ (kL_load l hl0 dC dI cyI cyB cyO cyA cyT cyW cyZ ua ub up aw as' kS H.size hc hE9) (vx_cwSW 2 hts (gv_L_load_19 hgb) rfl rfl rfl (by decide +kernel) ⟨(Nat.le_of_ble_eq_true rfl), (Nat.le_of_ble_eq_true rfl)⟩) (epre_left hEV (hB.perm (wperm (L' := [cU cyI cyB cyO ua ub up aw as' pa β υ48 ω49 sid50 τs n, [(bu, .inl (cyI, 8, .inl b))], cN rn sd, cX cyI cyA cyT wa ks ts kr ta sa ra K mT Ns ζ κ Φ Ψ, [(nb, .inl (cyW, 9, .inr (.inr (.inr (.inr (fun j => (pb j).map pwa))))))], cXs cyI cyA cyT pwa pks pts pkr pta psa pra K mT Ns pζ pκ pΦ pΨ pc0]) [0, 1, 2, 3, 4, 5] (by decide +kernel) rfl rfl)) hA hK [.ref ua, .int (1 : Int32)]) hB hA (wperm (L' := [cU cyI cyB cyO ua ub up aw as' pa β υ48 ω49 sid50 τs n, [(bu, .inl (cyI, 8, .inl b))], cN rn sd, cX cyI cyA cyT wa ks ts kr ta sa ra K mT Ns ζ κ Φ Ψ, [(nb, .inl (cyW, 9, .inr (.inr (.inr (.inr (fun j => (pb j).map pwa))))))], cXs cyI cyA cyT pwa pks pts pkr pta psa pra K mT Ns pζ pκ pΦ pΨ pc0]) [0, 1, 2, 3, 4, 5] (by decide +kernel) rfl rfl) rfl hl.1 rfl (Nat.le_of_ble_eq_true rfl) dL_law_1078 ⟨Nat.le_trans (m := 500000) (by show _ ≤ 500000; omega) rm_c, Nat.le_trans (m := 6000000) (by show _ ≤ 6000000; omega) rm_s⟩ ?_
      clear hB locs H
      intro r9 u84 H locs hr9 hB
      rw [hr9, er9]
      have e9 : (fun u84 => xU (cU cyI cyB cyO ua ub up aw as' pa β υ48 ω49 sid50 τs n) (fun x => ((fun x (as2 : Nat → Nat → Nat) => cU cyI cyB cyO ua ub up aw as2 x.2.1 β x.2.2.1 x.2.2.2.1 x.2.2.2.2.1 x.2.2.2.2.2.1 x.2.2.2.2.2.2)) x u84) o76) u84 = cU cyI cyB cyO ua ub up aw (xV as' (fun _ => u84) o76) pa78 β υ79 ω80 sid81 τs82 n83 := by rw [← epa78, ← eυ79, ← eω80, ← esid81, ← eτs82, ← en83]; cases o76 <;> rfl
      replace hB := (congrArg (fun z : va_W => Bd (dC, dI) [(cyI, .int), (cyB, .byte), (cyO, .object "UndoJourneys$World"), (cyA, .array .int), (cyT, .object "UndoJourneysLaw$Trip"), (cyW, .object "UndoJourneysLaw$World"), (cyZ, .boolean)] (va_A [] s.heap.size) s (z ++ (wF [[(bu, .inl (cyI, 8, .inl b))], cN rn sd, cX cyI cyA cyT wa ks ts kr ta sa ra K mT Ns ζ κ Φ Ψ, [(nb, .inl (cyW, 9, .inr (.inr (.inr (.inr (fun j => (pb j).map pwa))))))], cXs cyI cyA cyT pwa pks pts pkr pta psa pra K mT Ns pζ pκ pΦ pΨ pc0])) H locs) e9).mp hB
      generalize (xV as' (fun _ => u84) o76) = asn85 at hB
      replace hB := hB.perm wF_un1
      replace hB := hB.perm (wperm (L' := [cU cyI cyB cyO ua ub up aw asn85 pa78 β υ79 ω80 sid81 τs82 n83, [(bu, .inl (cyI, 8, .inl b))], cN rn sd, cX cyI cyA cyT wa ks ts kr ta sa ra K mT Ns ζ κ Φ Ψ, [(nb, .inl (cyW, 9, .inr (.inr (.inr (.inr (fun j => (pb j).map pwa))))))], cXs cyI cyA cyT pwa pks pts pkr pta psa pra K mT Ns pζ pκ pΦ pΨ pc0]) [0, 1, 2, 3, 4, 5] (by decide +kernel) rfl rfl)
      refine lv_ldc (v := (-2000000098 : Int32)) hx hb hown hq0 dL_law_1081 ?_
      refine lv_icmp_ne (tgt := 1134) hx hb dL_law_1083 (by decide) (fun c86 => ?_) (fun c86 => ?_)
      · replace hD73 := ite_f c86 hD73
        obtain ⟨e0, e1, e2, e3, e4, e5, e6⟩ := inj7 hD73
        subst e1
        subst e2
        subst e3
        subst e4
        subst e5
        subst e6
        refine W.widen (k := (c00 + 18021)) (n := (s00 + 108354)) (by omega) (by omega) ?_
        exact kFt66 e0.symm _ _ _ hB
      · replace hD73 := ite_t c86 hD73
        refine lv_aload_n hx hb dL_law_1086 rfl (lv_at hl 0 rfl) ?_
        refine lv_iconst (v := (-1 : Int32)) hx hb dL_law_1087 (by decide) ?_
        refine lv_iconst (v := (0 : Int32)) hx hb dL_law_1088 (by decide) ?_
        replace hD73 := ob1_s hD73
        obtain ⟨o87, hc, hD73⟩ := hD73
        obtain ⟨hc, hE9⟩ := hEl_s hc
        replace hD73 := ob1_s hD73
        obtain ⟨r88, er9, hD73⟩ := hD73
        replace er9 := inj1 er9
        refine e_Wi (S := Unit) (As := [.ref ua, .int (-1 : Int32), .int (0 : Int32)]) (rest := []) (wc := cU cyI cyB cyO ua ub up aw asn85 pa78 β υ79 ω80 sid81 τs82 n83) (wr := (wF [[(bu, .inl (cyI, 8, .inl b))], cN rn sd, cX cyI cyA cyT wa ks ts kr ta sa ra K mT Ns ζ κ Φ Ψ, [(nb, .inl (cyW, 9, .inr (.inr (.inr (.inr (fun j => (pb j).map pwa))))))], cXs cyI cyA cyT pwa pks pts pkr pta psa pra K mT Ns pζ pκ pΦ pΨ pc0])) (w1 := fun _ => xU (cU cyI cyB cyO ua ub up aw asn85 pa78 β υ79 ω80 sid81 τs82 n83) (fun x => (cU cyI cyB cyO ua ub up aw asn85 pa78 β υ79 ω80 sid81 τs82 n83)) o87) ⟨hx, hb, hml, hown, hts⟩ (kL_owed l hl0 dC dI cyI cyB cyO cyA cyT cyW cyZ ua ub up aw asn85 kS H.size hc hE9) (vx_cwSW 3 hts (gv_L_owed_259 hgb) rfl rfl rfl (by decide +kernel) ⟨(Nat.le_of_ble_eq_true rfl), (Nat.le_of_ble_eq_true rfl)⟩) (epre_left hEV (hB.perm (wperm (L' := [cU cyI cyB cyO ua ub up aw asn85 pa78 β υ79 ω80 sid81 τs82 n83, [(bu, .inl (cyI, 8, .inl b))], cN rn sd, cX cyI cyA cyT wa ks ts kr ta sa ra K mT Ns ζ κ Φ Ψ, [(nb, .inl (cyW, 9, .inr (.inr (.inr (.inr (fun j => (pb j).map pwa))))))], cXs cyI cyA cyT pwa pks pts pkr pta psa pra K mT Ns pζ pκ pΦ pΨ pc0]) [0, 1, 2, 3, 4, 5] (by decide +kernel) rfl rfl)) hA hK [.ref ua, .int (-1 : Int32), .int (0 : Int32)]) hB hA (wperm (L' := [cU cyI cyB cyO ua ub up aw asn85 pa78 β υ79 ω80 sid81 τs82 n83, [(bu, .inl (cyI, 8, .inl b))], cN rn sd, cX cyI cyA cyT wa ks ts kr ta sa ra K mT Ns ζ κ Φ Ψ, [(nb, .inl (cyW, 9, .inr (.inr (.inr (.inr (fun j => (pb j).map pwa))))))], cXs cyI cyA cyT pwa pks pts pkr pta psa pra K mT Ns pζ pκ pΦ pΨ pc0]) [0, 1, 2, 3, 4, 5] (by decide +kernel) rfl rfl) rfl hl.1 rfl (Nat.le_of_ble_eq_true rfl) dL_law_1089 ⟨Nat.le_trans (m := 500000) (by show _ ≤ 500000; omega) rm_c, Nat.le_trans (m := 6000000) (by show _ ≤ 6000000; omega) rm_s⟩ ?_
        clear hB locs H
        intro r9 _ H locs hr9 hB
        rw [hr9, er9]
        rw [xU_same (cU cyI cyB cyO ua ub up aw asn85 pa78 β υ79 ω80 sid81 τs82 n83) o87] at hB
        replace hB := hB.perm wF_un1
        replace hB := hB.perm (wperm (L' := [cU cyI cyB cyO ua ub up aw asn85 pa78 β υ79 ω80 sid81 τs82 n83, [(bu, .inl (cyI, 8, .inl b))], cN rn sd, cX cyI cyA cyT wa ks ts kr ta sa ra K mT Ns ζ κ Φ Ψ, [(nb, .inl (cyW, 9, .inr (.inr (.inr (.inr (fun j => (pb j).map pwa))))))], cXs cyI cyA cyT pwa pks pts pkr pta psa pra K mT Ns pζ pκ pΦ pΨ pc0]) [0, 1, 2, 3, 4, 5] (by decide +kernel) rfl rfl)
        refine lv_ldc (v := (-2000000097 : Int32)) hx hb hown hq1 dL_law_1092 ?_
        refine lv_icmp_ne (tgt := 1134) hx hb dL_law_1094 (by decide) (fun c89 => ?_) (fun c89 => ?_)
        · replace hD73 := ite_f c89 hD73
          obtain ⟨e0, e1, e2, e3, e4, e5, e6⟩ := inj7 hD73
          subst e1
          subst e2
          subst e3
          subst e4
          subst e5
          subst e6
          refine W.widen (k := (c00 + 18021)) (n := (s00 + 108354)) (by omega) (by omega) ?_
          exact kFt66 e0.symm _ _ _ hB
        · replace hD73 := ite_t c89 hD73
          refine lv_aload_n hx hb dL_law_1097 rfl (lv_at hl 0 rfl) ?_
          refine lv_bipush (v := (8 : Int32)) hx hb dL_law_1098 (by decide) ?_
          replace hD73 := ob1_s hD73
          obtain ⟨o90, hc, hD73⟩ := hD73
          obtain ⟨hc, hE9⟩ := hEl_s hc
          replace hD73 := ob1_s hD73
          obtain ⟨r91, er9, hD73⟩ := hD73
          replace er9 := inj1 er9
          replace hD73 := ob1_s hD73
          obtain ⟨ω92, eω92, hD73⟩ := hD73
          replace eω92 := inj1 eω92
          replace hD73 := ob1_s hD73
          obtain ⟨sid93, esid93, hD73⟩ := hD73
          replace esid93 := inj1 esid93
          refine e_Wi (S := Unit) (As := [.ref ua, .int (8 : Int32)]) (rest := []) (wc := cU cyI cyB cyO ua ub up aw asn85 pa78 β υ79 ω80 sid81 τs82 n83) (wr := (wF [[(bu, .inl (cyI, 8, .inl b))], cN rn sd, cX cyI cyA cyT wa ks ts kr ta sa ra K mT Ns ζ κ Φ Ψ, [(nb, .inl (cyW, 9, .inr (.inr (.inr (.inr (fun j => (pb j).map pwa))))))], cXs cyI cyA cyT pwa pks pts pkr pta psa pra K mT Ns pζ pκ pΦ pΨ pc0])) (w1 := fun _ => xU (cU cyI cyB cyO ua ub up aw asn85 pa78 β υ79 ω80 sid81 τs82 n83) (fun x => (cU cyI cyB cyO ua ub up aw asn85 pa78 β υ79 (x.2.1) (x.2.2) τs82 n83)) o90) ⟨hx, hb, hml, hown, hts⟩ (kL_restsIn l hl0 dC dI cyI cyB cyO cyA cyT cyW cyZ ua ub up aw asn85 kS H.size hc hE9) (vx_cwSW 2 hts (gv_L_restsIn_261 hgb) rfl rfl rfl (by decide +kernel) ⟨(Nat.le_of_ble_eq_true rfl), (Nat.le_of_ble_eq_true rfl)⟩) (epre_left hEV (hB.perm (wperm (L' := [cU cyI cyB cyO ua ub up aw asn85 pa78 β υ79 ω80 sid81 τs82 n83, [(bu, .inl (cyI, 8, .inl b))], cN rn sd, cX cyI cyA cyT wa ks ts kr ta sa ra K mT Ns ζ κ Φ Ψ, [(nb, .inl (cyW, 9, .inr (.inr (.inr (.inr (fun j => (pb j).map pwa))))))], cXs cyI cyA cyT pwa pks pts pkr pta psa pra K mT Ns pζ pκ pΦ pΨ pc0]) [0, 1, 2, 3, 4, 5] (by decide +kernel) rfl rfl)) hA hK [.ref ua, .int (8 : Int32)]) hB hA (wperm (L' := [cU cyI cyB cyO ua ub up aw asn85 pa78 β υ79 ω80 sid81 τs82 n83, [(bu, .inl (cyI, 8, .inl b))], cN rn sd, cX cyI cyA cyT wa ks ts kr ta sa ra K mT Ns ζ κ Φ Ψ, [(nb, .inl (cyW, 9, .inr (.inr (.inr (.inr (fun j => (pb j).map pwa))))))], cXs cyI cyA cyT pwa pks pts pkr pta psa pra K mT Ns pζ pκ pΦ pΨ pc0]) [0, 1, 2, 3, 4, 5] (by decide +kernel) rfl rfl) rfl hl.1 rfl (Nat.le_of_ble_eq_true rfl) dL_law_1100 ⟨Nat.le_trans (m := 500000) (by show _ ≤ 500000; omega) rm_c, Nat.le_trans (m := 6000000) (by show _ ≤ 6000000; omega) rm_s⟩ ?_
          clear hB locs H
          intro r9 _ H locs hr9 hB
          rw [hr9, er9]
          have e9 : xU (cU cyI cyB cyO ua ub up aw asn85 pa78 β υ79 ω80 sid81 τs82 n83) (fun x => (cU cyI cyB cyO ua ub up aw asn85 pa78 β υ79 (x.2.1) (x.2.2) τs82 n83)) o90 = cU cyI cyB cyO ua ub up aw asn85 pa78 β υ79 ω92 sid93 τs82 n83 := by rw [← eω92, ← esid93]; cases o90 <;> rfl
          replace hB := (congrArg (fun z : va_W => Bd (dC, dI) [(cyI, .int), (cyB, .byte), (cyO, .object "UndoJourneys$World"), (cyA, .array .int), (cyT, .object "UndoJourneysLaw$Trip"), (cyW, .object "UndoJourneysLaw$World"), (cyZ, .boolean)] (va_A [] s.heap.size) s (z ++ (wF [[(bu, .inl (cyI, 8, .inl b))], cN rn sd, cX cyI cyA cyT wa ks ts kr ta sa ra K mT Ns ζ κ Φ Ψ, [(nb, .inl (cyW, 9, .inr (.inr (.inr (.inr (fun j => (pb j).map pwa))))))], cXs cyI cyA cyT pwa pks pts pkr pta psa pra K mT Ns pζ pκ pΦ pΨ pc0])) H locs) e9).mp hB
          replace hB := hB.perm wF_un1
          replace hB := hB.perm (wperm (L' := [cU cyI cyB cyO ua ub up aw asn85 pa78 β υ79 ω92 sid93 τs82 n83, [(bu, .inl (cyI, 8, .inl b))], cN rn sd, cX cyI cyA cyT wa ks ts kr ta sa ra K mT Ns ζ κ Φ Ψ, [(nb, .inl (cyW, 9, .inr (.inr (.inr (.inr (fun j => (pb j).map pwa))))))], cXs cyI cyA cyT pwa pks pts pkr pta psa pra K mT Ns pζ pκ pΦ pΨ pc0]) [0, 1, 2, 3, 4, 5] (by decide +kernel) rfl rfl)
          refine lv_ldc (v := (-2000000097 : Int32)) hx hb hown hq1 dL_law_1103 ?_
          refine lv_icmp_ne (tgt := 1134) hx hb dL_law_1105 (by decide) (fun c94 => ?_) (fun c94 => ?_)
          · replace hD73 := ite_f c94 hD73
            obtain ⟨e0, e1, e2, e3, e4, e5, e6⟩ := inj7 hD73
            subst e1
            subst e2
            subst e3
            subst e4
            subst e5
            subst e6
            refine W.widen (k := (c00 + 18021)) (n := (s00 + 108354)) (by omega) (by omega) ?_
            exact kFt66 e0.symm _ _ _ hB
          · replace hD73 := ite_t c94 hD73
            refine lv_aload_n hx hb dL_law_1108 rfl (lv_at hl 0 rfl) ?_
            refine lv_iconst (v := (-1 : Int32)) hx hb dL_law_1109 (by decide) ?_
            refine lv_iconst (v := (0 : Int32)) hx hb dL_law_1110 (by decide) ?_
            replace hD73 := ob1_s hD73
            obtain ⟨o95, hc, hD73⟩ := hD73
            obtain ⟨hc, hE9⟩ := hEl_s hc
            replace hD73 := ob1_s hD73
            obtain ⟨r96, er9, hD73⟩ := hD73
            replace er9 := inj1 er9
            replace hD73 := ob1_s hD73
            obtain ⟨ω97, eω97, hD73⟩ := hD73
            replace eω97 := inj1 eω97
            replace hD73 := ob1_s hD73
            obtain ⟨sid98, esid98, hD73⟩ := hD73
            replace esid98 := inj1 esid98
            refine e_Wi (S := Unit) (As := [.ref ua, .int (-1 : Int32), .int (0 : Int32)]) (rest := []) (wc := cU cyI cyB cyO ua ub up aw asn85 pa78 β υ79 ω92 sid93 τs82 n83) (wr := (wF [[(bu, .inl (cyI, 8, .inl b))], cN rn sd, cX cyI cyA cyT wa ks ts kr ta sa ra K mT Ns ζ κ Φ Ψ, [(nb, .inl (cyW, 9, .inr (.inr (.inr (.inr (fun j => (pb j).map pwa))))))], cXs cyI cyA cyT pwa pks pts pkr pta psa pra K mT Ns pζ pκ pΦ pΨ pc0])) (w1 := fun _ => xU (cU cyI cyB cyO ua ub up aw asn85 pa78 β υ79 ω92 sid93 τs82 n83) (fun x => (cU cyI cyB cyO ua ub up aw asn85 pa78 β υ79 (x.2.1) (x.2.2) τs82 n83)) o95) ⟨hx, hb, hml, hown, hts⟩ (kL_stateAfter l hl0 dC dI cyI cyB cyO cyA cyT cyW cyZ ua ub up aw asn85 kS H.size hc hE9) (vx_cwSW 3 hts (gv_L_stateAfter_263 hgb) rfl rfl rfl (by decide +kernel) ⟨(Nat.le_of_ble_eq_true rfl), (Nat.le_of_ble_eq_true rfl)⟩) (epre_left hEV (hB.perm (wperm (L' := [cU cyI cyB cyO ua ub up aw asn85 pa78 β υ79 ω92 sid93 τs82 n83, [(bu, .inl (cyI, 8, .inl b))], cN rn sd, cX cyI cyA cyT wa ks ts kr ta sa ra K mT Ns ζ κ Φ Ψ, [(nb, .inl (cyW, 9, .inr (.inr (.inr (.inr (fun j => (pb j).map pwa))))))], cXs cyI cyA cyT pwa pks pts pkr pta psa pra K mT Ns pζ pκ pΦ pΨ pc0]) [0, 1, 2, 3, 4, 5] (by decide +kernel) rfl rfl)) hA hK [.ref ua, .int (-1 : Int32), .int (0 : Int32)]) hB hA (wperm (L' := [cU cyI cyB cyO ua ub up aw asn85 pa78 β υ79 ω92 sid93 τs82 n83, [(bu, .inl (cyI, 8, .inl b))], cN rn sd, cX cyI cyA cyT wa ks ts kr ta sa ra K mT Ns ζ κ Φ Ψ, [(nb, .inl (cyW, 9, .inr (.inr (.inr (.inr (fun j => (pb j).map pwa))))))], cXs cyI cyA cyT pwa pks pts pkr pta psa pra K mT Ns pζ pκ pΦ pΨ pc0]) [0, 1, 2, 3, 4, 5] (by decide +kernel) rfl rfl) rfl hl.1 rfl (Nat.le_of_ble_eq_true rfl) dL_law_1111 ⟨Nat.le_trans (m := 500000) (by show _ ≤ 500000; omega) rm_c, Nat.le_trans (m := 6000000) (by show _ ≤ 6000000; omega) rm_s⟩ ?_
            clear hB locs H
            intro r9 _ H locs hr9 hB
            rw [hr9, er9]
            have e9 : xU (cU cyI cyB cyO ua ub up aw asn85 pa78 β υ79 ω92 sid93 τs82 n83) (fun x => (cU cyI cyB cyO ua ub up aw asn85 pa78 β υ79 (x.2.1) (x.2.2) τs82 n83)) o95 = cU cyI cyB cyO ua ub up aw asn85 pa78 β υ79 ω97 sid98 τs82 n83 := by rw [← eω97, ← esid98]; cases o95 <;> rfl
            replace hB := (congrArg (fun z : va_W => Bd (dC, dI) [(cyI, .int), (cyB, .byte), (cyO, .object "UndoJourneys$World"), (cyA, .array .int), (cyT, .object "UndoJourneysLaw$Trip"), (cyW, .object "UndoJourneysLaw$World"), (cyZ, .boolean)] (va_A [] s.heap.size) s (z ++ (wF [[(bu, .inl (cyI, 8, .inl b))], cN rn sd, cX cyI cyA cyT wa ks ts kr ta sa ra K mT Ns ζ κ Φ Ψ, [(nb, .inl (cyW, 9, .inr (.inr (.inr (.inr (fun j => (pb j).map pwa))))))], cXs cyI cyA cyT pwa pks pts pkr pta psa pra K mT Ns pζ pκ pΦ pΨ pc0])) H locs) e9).mp hB
            replace hB := hB.perm wF_un1
            replace hB := hB.perm (wperm (L' := [cU cyI cyB cyO ua ub up aw asn85 pa78 β υ79 ω97 sid98 τs82 n83, [(bu, .inl (cyI, 8, .inl b))], cN rn sd, cX cyI cyA cyT wa ks ts kr ta sa ra K mT Ns ζ κ Φ Ψ, [(nb, .inl (cyW, 9, .inr (.inr (.inr (.inr (fun j => (pb j).map pwa))))))], cXs cyI cyA cyT pwa pks pts pkr pta psa pra K mT Ns pζ pκ pΦ pΨ pc0]) [0, 1, 2, 3, 4, 5] (by decide +kernel) rfl rfl)
            refine lv_ldc (v := (-2000000097 : Int32)) hx hb hown hq1 dL_law_1114 ?_
            refine lv_icmp_ne (tgt := 1134) hx hb dL_law_1116 (by decide) (fun c99 => ?_) (fun c99 => ?_)
            · replace hD73 := ite_f c99 hD73
              obtain ⟨e0, e1, e2, e3, e4, e5, e6⟩ := inj7 hD73
              subst e1
              subst e2
              subst e3
              subst e4
              subst e5
              subst e6
              refine W.widen (k := (c00 + 18021)) (n := (s00 + 108354)) (by omega) (by omega) ?_
              exact kFt66 e0.symm _ _ _ hB
            · replace hD73 := ite_t c99 hD73
              refine lv_aload_n hx hb dL_law_1119 rfl (lv_at hl 0 rfl) ?_
              refine lv_iconst (v := (-1 : Int32)) hx hb dL_law_1120 (by decide) ?_
              refine lv_iconst (v := (0 : Int32)) hx hb dL_law_1121 (by decide) ?_
              replace hD73 := ob1_s hD73
              obtain ⟨o100, hc, hD73⟩ := hD73
              obtain ⟨hc, hE9⟩ := hEl_s hc
              replace hD73 := ob1_s hD73
              obtain ⟨r101, er9, hD73⟩ := hD73
              replace er9 := inj1 er9
              replace hD73 := ob1_s hD73
              obtain ⟨ω102, eω102, hD73⟩ := hD73
              replace eω102 := inj1 eω102
              replace hD73 := ob1_s hD73
              obtain ⟨sid103, esid103, hD73⟩ := hD73
              replace esid103 := inj1 esid103
              refine e_Wi (S := Unit) (As := [.ref ua, .int (-1 : Int32), .int (0 : Int32)]) (rest := []) (wc := cU cyI cyB cyO ua ub up aw asn85 pa78 β υ79 ω97 sid98 τs82 n83) (wr := (wF [[(bu, .inl (cyI, 8, .inl b))], cN rn sd, cX cyI cyA cyT wa ks ts kr ta sa ra K mT Ns ζ κ Φ Ψ, [(nb, .inl (cyW, 9, .inr (.inr (.inr (.inr (fun j => (pb j).map pwa))))))], cXs cyI cyA cyT pwa pks pts pkr pta psa pra K mT Ns pζ pκ pΦ pΨ pc0])) (w1 := fun _ => xU (cU cyI cyB cyO ua ub up aw asn85 pa78 β υ79 ω97 sid98 τs82 n83) (fun x => (cU cyI cyB cyO ua ub up aw asn85 pa78 β υ79 (x.2.1) (x.2.2) τs82 n83)) o100) ⟨hx, hb, hml, hown, hts⟩ (kL_help l hl0 dC dI cyI cyB cyO cyA cyT cyW cyZ ua ub up aw asn85 kS H.size hc hE9) (vx_cwSW 3 hts (gv_L_help_265 hgb) rfl rfl rfl (by decide +kernel) ⟨(Nat.le_of_ble_eq_true rfl), (Nat.le_of_ble_eq_true rfl)⟩) (epre_left hEV (hB.perm (wperm (L' := [cU cyI cyB cyO ua ub up aw asn85 pa78 β υ79 ω97 sid98 τs82 n83, [(bu, .inl (cyI, 8, .inl b))], cN rn sd, cX cyI cyA cyT wa ks ts kr ta sa ra K mT Ns ζ κ Φ Ψ, [(nb, .inl (cyW, 9, .inr (.inr (.inr (.inr (fun j => (pb j).map pwa))))))], cXs cyI cyA cyT pwa pks pts pkr pta psa pra K mT Ns pζ pκ pΦ pΨ pc0]) [0, 1, 2, 3, 4, 5] (by decide +kernel) rfl rfl)) hA hK [.ref ua, .int (-1 : Int32), .int (0 : Int32)]) hB hA (wperm (L' := [cU cyI cyB cyO ua ub up aw asn85 pa78 β υ79 ω97 sid98 τs82 n83, [(bu, .inl (cyI, 8, .inl b))], cN rn sd, cX cyI cyA cyT wa ks ts kr ta sa ra K mT Ns ζ κ Φ Ψ, [(nb, .inl (cyW, 9, .inr (.inr (.inr (.inr (fun j => (pb j).map pwa))))))], cXs cyI cyA cyT pwa pks pts pkr pta psa pra K mT Ns pζ pκ pΦ pΨ pc0]) [0, 1, 2, 3, 4, 5] (by decide +kernel) rfl rfl) rfl hl.1 rfl (Nat.le_of_ble_eq_true rfl) dL_law_1122 ⟨Nat.le_trans (m := 500000) (by show _ ≤ 500000; omega) rm_c, Nat.le_trans (m := 6000000) (by show _ ≤ 6000000; omega) rm_s⟩ ?_
              clear hB locs H
              intro r9 _ H locs hr9 hB
              rw [hr9, er9]
              have e9 : xU (cU cyI cyB cyO ua ub up aw asn85 pa78 β υ79 ω97 sid98 τs82 n83) (fun x => (cU cyI cyB cyO ua ub up aw asn85 pa78 β υ79 (x.2.1) (x.2.2) τs82 n83)) o100 = cU cyI cyB cyO ua ub up aw asn85 pa78 β υ79 ω102 sid103 τs82 n83 := by rw [← eω102, ← esid103]; cases o100 <;> rfl
              replace hB := (congrArg (fun z : va_W => Bd (dC, dI) [(cyI, .int), (cyB, .byte), (cyO, .object "UndoJourneys$World"), (cyA, .array .int), (cyT, .object "UndoJourneysLaw$Trip"), (cyW, .object "UndoJourneysLaw$World"), (cyZ, .boolean)] (va_A [] s.heap.size) s (z ++ (wF [[(bu, .inl (cyI, 8, .inl b))], cN rn sd, cX cyI cyA cyT wa ks ts kr ta sa ra K mT Ns ζ κ Φ Ψ, [(nb, .inl (cyW, 9, .inr (.inr (.inr (.inr (fun j => (pb j).map pwa))))))], cXs cyI cyA cyT pwa pks pts pkr pta psa pra K mT Ns pζ pκ pΦ pΨ pc0])) H locs) e9).mp hB
              replace hB := hB.perm wF_un1
              replace hB := hB.perm (wperm (L' := [cU cyI cyB cyO ua ub up aw asn85 pa78 β υ79 ω102 sid103 τs82 n83, [(bu, .inl (cyI, 8, .inl b))], cN rn sd, cX cyI cyA cyT wa ks ts kr ta sa ra K mT Ns ζ κ Φ Ψ, [(nb, .inl (cyW, 9, .inr (.inr (.inr (.inr (fun j => (pb j).map pwa))))))], cXs cyI cyA cyT pwa pks pts pkr pta psa pra K mT Ns pζ pκ pΦ pΨ pc0]) [0, 1, 2, 3, 4, 5] (by decide +kernel) rfl rfl)
              refine lv_ldc (v := (-2000000097 : Int32)) hx hb hown hq1 dL_law_1125 ?_
              refine lv_icmp_ne (tgt := 1134) hx hb dL_law_1127 (by decide) (fun c104 => ?_) (fun c104 => ?_)
              · replace hD73 := ite_f c104 hD73
                obtain ⟨e0, e1, e2, e3, e4, e5, e6⟩ := inj7 hD73
                subst e1
                subst e2
                subst e3
                subst e4
                subst e5
                subst e6
                exact kFt66 e0.symm _ _ _ hB
              · replace hD73 := ite_t c104 hD73
                obtain ⟨e0, e1, e2, e3, e4, e5, e6⟩ := inj7 hD73
                subst e1
                subst e2
                subst e3
                subst e4
                subst e5
                subst e6
                exact kTt66 e0.symm _ _ _ hB
  have key52 : ∀ (n9 : Nat) (v106 : Int32) (v107 : Int32) (υ108 : MS) (ω109 : WS) (sid110 : PA)  (H : Heap) (locs : List Loc) (ls : Array Slot), n9 ≤ 9 → loopM (fun st => mL_law_L1023 fu K mT Ns l8 l2 τs n pa β b sd ζ κ Φ Ψ pb pζ pκ pΦ pΨ pc0 st.1 st.2.1 st.2.2.1 st.2.2.2.1 st.2.2.2.2) n9 (v106, v107, υ108, ω109, sid110) = some (v47, υ48, ω49, sid50) → Bd (dC, dI) [(cyI, .int), (cyB, .byte), (cyO, .object "UndoJourneys$World"), (cyA, .array .int), (cyT, .object "UndoJourneysLaw$Trip"), (cyW, .object "UndoJourneysLaw$World"), (cyZ, .boolean)] (va_A [] s.heap.size) s (wF [cU cyI cyB cyO ua ub up aw as' pa β υ108 ω109 sid110 τs n, [(bu, .inl (cyI, 8, .inl b))], cN rn sd, cX cyI cyA cyT wa ks ts kr ta sa ra K mT Ns ζ κ Φ Ψ, [(nb, .inl (cyW, 9, .inr (.inr (.inr (.inr (fun j => (pb j).map pwa))))))], cXs cyI cyA cyT pwa pks pts pkr pta psa pra K mT Ns pζ pκ pΦ pΨ pc0]) H locs → lv_has ls 25 [(9, .int v106), (8, .int l8), (7, .ref nb), (3, .ref ua), (2, .int l2), (1, .int v107), (0, .ref sb)] → W p l e room_1 s m #[Value.ref sb] below meth c H locs ((c00 + 0) + (9 - n9) * 2000) ((s00 + 0) + (9 - n9) * 12000) (lw_Z below #[Value.ref sb] s) (F0 m 1023 ls []) := by
    clear hB hl ls locs H
    intro n9
    induction n9 with
    | zero => intro v106 v107 υ108 ω109 sid110 H locs ls _ hL53; exact (loopM_z hL53).elim
    | succ n9 ih9 =>
      intro v106 v107 υ108 ω109 sid110 H locs ls hn113 hL53 hB hl
      obtain ⟨cv111, hcv111⟩ : ∃ cv : Nat, cv + 0 = (c00 + 0) + (9 - (n9 + 1)) * 2000 := ⟨_, Nat.add_zero _⟩
      obtain ⟨scv111, hscv111⟩ : ∃ cv : Nat, cv + 0 = (s00 + 0) + (9 - (n9 + 1)) * 12000 := ⟨_, Nat.add_zero _⟩
      rw [← hcv111, ← hscv111]
      replace hL53 := loopM_s hL53
      obtain ⟨o112, hg54, hL53⟩ := hL53
      have hg54 : mL_law_L1023 fu K mT Ns l8 l2 τs n pa β b sd ζ κ Φ Ψ pb pζ pκ pΦ pΨ pc0 v106 v107 υ108 ω109 sid110 = some o112 := hg54
      unfold mL_law_L1023 at hg54
      refine lv_iload hx hb dL_law_1023 (lv_at hl 0 rfl) ?_
      refine lv_bipush (v := (8 : Int32)) hx hb dL_law_1025 (by decide) ?_
      replace hg54 := ob1_s hg54
      obtain ⟨t114, hD115, hg54⟩ := hg54
      have kTt114 : t114 = true → ∀ (H : Heap) (locs : List Loc), Bd (dC, dI) [(cyI, .int), (cyB, .byte), (cyO, .object "UndoJourneys$World"), (cyA, .array .int), (cyT, .object "UndoJourneysLaw$Trip"), (cyW, .object "UndoJourneysLaw$World"), (cyZ, .boolean)] (va_A [] s.heap.size) s (wF [cU cyI cyB cyO ua ub up aw as' pa β υ108 ω109 sid110 τs n, [(bu, .inl (cyI, 8, .inl b))], cN rn sd, cX cyI cyA cyT wa ks ts kr ta sa ra K mT Ns ζ κ Φ Ψ, [(nb, .inl (cyW, 9, .inr (.inr (.inr (.inr (fun j => (pb j).map pwa))))))], cXs cyI cyA cyT pwa pks pts pkr pta psa pra K mT Ns pζ pκ pΦ pΨ pc0]) H locs → W p l e room_1 s m #[Value.ref sb] below meth c H locs (cv111 + 0) (scv111 + 0) (lw_Z below #[Value.ref sb] s) (F0 m 1041 ls []) := by
        intro ht H locs hB
        have hg54 := cnd_t ht hg54
        refine lv_aload_n hx hb dL_law_1041 rfl (lv_at hl 3 rfl) ?_
        replace hg54 := ob4_s hg54
        obtain ⟨r119, υ120, ω121, sid122, hc, hg54⟩ := hg54
        refine e_Vi (S := Unit) (As := []) (rest := []) (wc := cU cyI cyB cyO ua ub up aw as' pa β υ108 ω109 sid110 τs n) (wr := (wF [[(bu, .inl (cyI, 8, .inl b))], cN rn sd, cX cyI cyA cyT wa ks ts kr ta sa ra K mT Ns ζ κ Φ Ψ, [(nb, .inl (cyW, 9, .inr (.inr (.inr (.inr (fun j => (pb j).map pwa))))))], cXs cyI cyA cyT pwa pks pts pkr pta psa pra K mT Ns pζ pκ pΦ pΨ pc0])) (w1 := fun _ => cU cyI cyB cyO ua ub up aw as' pa β υ120 ω121 sid122 τs n) ⟨hx, hb, hml, hown, hts⟩ (kX3_undo l dC dI cyI cyB cyO ua ub up aw as' H.size hc) (cwV 0 hts (gv_X3_undo_211 hgb) rfl rfl rfl (by decide +kernel) ⟨(Nat.le_of_ble_eq_true rfl), (Nat.le_of_ble_eq_true rfl)⟩) (pcut_pre (hB.perm (wperm (L' := [cU cyI cyB cyO ua ub up aw as' pa β υ108 ω109 sid110 τs n, [(bu, .inl (cyI, 8, .inl b))], cN rn sd, cX cyI cyA cyT wa ks ts kr ta sa ra K mT Ns ζ κ Φ Ψ, [(nb, .inl (cyW, 9, .inr (.inr (.inr (.inr (fun j => (pb j).map pwa))))))], cXs cyI cyA cyT pwa pks pts pkr pta psa pra K mT Ns pζ pκ pΦ pΨ pc0]) [0, 1, 2, 3, 4, 5] (by decide +kernel) rfl rfl)) (hK.sub [0, 1, 2] rfl) (.ref ua :: [])) hB hA (g_recv (ci := 3) hK (hB.perm (wperm (L' := [cU cyI cyB cyO ua ub up aw as' pa β υ108 ω109 sid110 τs n, [(bu, .inl (cyI, 8, .inl b))], cN rn sd, cX cyI cyA cyT wa ks ts kr ta sa ra K mT Ns ζ κ Φ Ψ, [(nb, .inl (cyW, 9, .inr (.inr (.inr (.inr (fun j => (pb j).map pwa))))))], cXs cyI cyA cyT pwa pks pts pkr pta psa pra K mT Ns pζ pκ pΦ pΨ pc0]) [0, 1, 2, 3, 4, 5] (by decide +kernel) rfl rfl)) 0 rfl rfl rfl) (wperm (L' := [cU cyI cyB cyO ua ub up aw as' pa β υ108 ω109 sid110 τs n, [(bu, .inl (cyI, 8, .inl b))], cN rn sd, cX cyI cyA cyT wa ks ts kr ta sa ra K mT Ns ζ κ Φ Ψ, [(nb, .inl (cyW, 9, .inr (.inr (.inr (.inr (fun j => (pb j).map pwa))))))], cXs cyI cyA cyT pwa pks pts pkr pta psa pra K mT Ns pζ pκ pΦ pΨ pc0]) [0, 1, 2, 3, 4, 5] (by decide +kernel) rfl rfl) rfl hl.1 rfl (Nat.le_of_ble_eq_true rfl) dL_law_1042 ⟨Nat.le_trans (m := 500000) (by show _ ≤ 500000; omega) rm_c, Nat.le_trans (m := 6000000) (by show _ ≤ 6000000; omega) rm_s⟩ ?_
        clear hB locs H
        intro r9 _ H locs hr9 hB
        rw [hr9]
        replace hB := hB.perm wF_un1
        replace hB := hB.perm (wperm (L' := [cU cyI cyB cyO ua ub up aw as' pa β υ120 ω121 sid122 τs n, [(bu, .inl (cyI, 8, .inl b))], cN rn sd, cX cyI cyA cyT wa ks ts kr ta sa ra K mT Ns ζ κ Φ Ψ, [(nb, .inl (cyW, 9, .inr (.inr (.inr (.inr (fun j => (pb j).map pwa))))))], cXs cyI cyA cyT pwa pks pts pkr pta psa pra K mT Ns pζ pκ pΦ pΨ pc0]) [0, 1, 2, 3, 4, 5] (by decide +kernel) rfl rfl)
        replace hg54 := ob1_s hg54
        obtain ⟨v123, hJ125, hg54⟩ := hg54
        have kJ126 : (v123 = 0 ∨ v123 = 1) → ∀ (H : Heap) (locs : List Loc) (ls : Array Slot), Bd (dC, dI) [(cyI, .int), (cyB, .byte), (cyO, .object "UndoJourneys$World"), (cyA, .array .int), (cyT, .object "UndoJourneysLaw$Trip"), (cyW, .object "UndoJourneysLaw$World"), (cyZ, .boolean)] (va_A [] s.heap.size) s (wF [cU cyI cyB cyO ua ub up aw as' pa β υ120 ω121 sid122 τs n, [(bu, .inl (cyI, 8, .inl b))], cN rn sd, cX cyI cyA cyT wa ks ts kr ta sa ra K mT Ns ζ κ Φ Ψ, [(nb, .inl (cyW, 9, .inr (.inr (.inr (.inr (fun j => (pb j).map pwa))))))], cXs cyI cyA cyT pwa pks pts pkr pta psa pra K mT Ns pζ pκ pΦ pΨ pc0]) H locs → lv_has ls 25 [(9, .int v106), (8, .int l8), (7, .ref nb), (3, .ref ua), (2, .int l2), (0, .ref sb)] → W p l e room_1 s m #[Value.ref sb] below meth c H locs (cv111 + 2000) (scv111 + 12000) (lw_Z below #[Value.ref sb] s) (F0 m 1065 ls [.int v123]) := by
          clear hB hl ls locs H
          intro z124 H locs ls hB hl
          refine lv_istore_n (lv' := [(1, .int v123), (9, .int v106), (8, .int l8), (7, .ref nb), (3, .ref ua), (2, .int l2), (0, .ref sb)]) hx hb dL_law_1065 rfl hl (by decide) rfl ?_
          clear hl ls
          intro ls hl
          refine lv_iinc (v := (v106 + (1 : Int32))) (lv' := [(9, .int (v106 + (1 : Int32))), (1, .int v123), (8, .int l8), (7, .ref nb), (3, .ref ua), (2, .int l2), (0, .ref sb)]) hx hb dL_law_1066 hl (k := 1) rfl rfl (by decide) rfl ?_
          clear hl ls
          intro ls hl
          refine lv_goto (tgt := 1023) hx hb dL_law_1069 (by decide) ?_
          replace hL53 := el1_r (inj1 hg54) hL53
          refine W.widen (k := (c00 + 0) + (9 - n9) * 2000) (n := (s00 + 0) + (9 - n9) * 12000) (by omega) (by omega) ?_
          exact ih9 _ _ _ _ _ _ _ _ (by omega) hL53 hB (lv_sub hl [0, 2, 3, 4, 5, 1, 6] rfl)
        replace hJ125 := ob1_s hJ125
        obtain ⟨t127, hD128, hJ125⟩ := hJ125
        have kTt127 : t127 = true → ∀ (H : Heap) (locs : List Loc), Bd (dC, dI) [(cyI, .int), (cyB, .byte), (cyO, .object "UndoJourneys$World"), (cyA, .array .int), (cyT, .object "UndoJourneysLaw$Trip"), (cyW, .object "UndoJourneysLaw$World"), (cyZ, .boolean)] (va_A [] s.heap.size) s (wF [cU cyI cyB cyO ua ub up aw as' pa β υ120 ω121 sid122 τs n, [(bu, .inl (cyI, 8, .inl b))], cN rn sd, cX cyI cyA cyT wa ks ts kr ta sa ra K mT Ns ζ κ Φ Ψ, [(nb, .inl (cyW, 9, .inr (.inr (.inr (.inr (fun j => (pb j).map pwa))))))], cXs cyI cyA cyT pwa pks pts pkr pta psa pra K mT Ns pζ pκ pΦ pΨ pc0]) H locs → W p l e room_1 s m #[Value.ref sb] below meth c H locs (cv111 + 2000) (scv111 + 12000) (lw_Z below #[Value.ref sb] s) (F0 m 1060 ls []) := by
          intro ht H locs hB
          have hJ125 := cnd_t ht hJ125
          refine lv_iconst (v := (1 : Int32)) hx hb dL_law_1060 (by decide) ?_
          refine lv_goto (tgt := 1065) hx hb dL_law_1061 (by decide) ?_
          have e0 := inj1 hJ125
          subst e0
          exact kJ126 (Or.inr rfl) _ _ _ hB (lv_sub hl [0, 1, 2, 3, 4, 6] rfl)
        have kFt127 : t127 = false → ∀ (H : Heap) (locs : List Loc), Bd (dC, dI) [(cyI, .int), (cyB, .byte), (cyO, .object "UndoJourneys$World"), (cyA, .array .int), (cyT, .object "UndoJourneysLaw$Trip"), (cyW, .object "UndoJourneysLaw$World"), (cyZ, .boolean)] (va_A [] s.heap.size) s (wF [cU cyI cyB cyO ua ub up aw as' pa β υ120 ω121 sid122 τs n, [(bu, .inl (cyI, 8, .inl b))], cN rn sd, cX cyI cyA cyT wa ks ts kr ta sa ra K mT Ns ζ κ Φ Ψ, [(nb, .inl (cyW, 9, .inr (.inr (.inr (.inr (fun j => (pb j).map pwa))))))], cXs cyI cyA cyT pwa pks pts pkr pta psa pra K mT Ns pζ pκ pΦ pΨ pc0]) H locs → W p l e room_1 s m #[Value.ref sb] below meth c H locs (cv111 + 2000) (scv111 + 12000) (lw_Z below #[Value.ref sb] s) (F0 m 1064 ls []) := by
          intro ht H locs hB
          have hJ125 := cnd_f ht hJ125
          refine lv_iconst (v := (0 : Int32)) hx hb dL_law_1064 (by decide) ?_
          have e0 := inj1 hJ125
          subst e0
          exact kJ126 (Or.inl rfl) _ _ _ hB (lv_sub hl [0, 1, 2, 3, 4, 6] rfl)
        refine lv_if_lt (tgt := 1064) hx hb dL_law_1045 (by decide) (fun c129 => ?_) (fun c129 => ?_)
        · replace hD128 := ite_t c129 hD128
          have e0 := inj1 hD128
          refine W.widen (k := (cv111 + 2000)) (n := (scv111 + 12000)) (by omega) (by omega) ?_
          exact kFt127 e0.symm _ _ hB
        · replace hD128 := ite_f c129 hD128
          refine lv_aload_n hx hb dL_law_1048 rfl (lv_at hl 3 rfl) ?_
          refine lv_aload hx hb dL_law_1049 (lv_at hl 2 rfl) ?_
          refine lv_iload hx hb dL_law_1051 (lv_at hl 0 rfl) ?_
          replace hD128 := ob1_s hD128
          obtain ⟨j130, e9, hD128⟩ := hD128
          obtain ⟨h_j130, e9⟩ := hixn_s e9
          refine va_aldq hx hb hK (hB.perm (wperm (L' := [[(nb, .inl (cyW, 9, .inr (.inr (.inr (.inr (fun j => (pb j).map pwa))))))], cU cyI cyB cyO ua ub up aw as' pa β υ120 ω121 sid122 τs n, [(bu, .inl (cyI, 8, .inl b))], cN rn sd, cX cyI cyA cyT wa ks ts kr ta sa ra K mT Ns ζ κ Φ Ψ, cXs cyI cyA cyT pwa pks pts pkr pta psa pra K mT Ns pζ pκ pΦ pΨ pc0]) [4, 0, 1, 2, 3, 5] (by decide +kernel) rfl rfl)).1 0 5 rfl rfl e9.1 dL_law_1053 ?_
          rw [e9.2]
          replace hD128 := ob1_s hD128
          obtain ⟨id131, eid131, hD128⟩ := hD128
          replace hD128 := ob1_s hD128
          obtain ⟨_, hid131, hD128⟩ := hD128
          replace hid131 := gLt_s hid131
          rw [show va_rf (Option.map pwa (pb j130)) = Value.ref (pwa id131) from by rw [eid131]; rfl]
          replace hD128 := ob1_s hD128
          obtain ⟨r132, hc, hD128⟩ := hD128
          refine e_Si (S := Unit) (As := [.ref ua, .ref (pwa id131)]) (rest := []) (wc := (wF [cU cyI cyB cyO ua ub up aw as' pa β υ120 ω121 sid122 τs n, cX cyI cyA cyT (pwa id131) (pks id131) (pts id131) (pkr id131) (pta id131) (psa id131) (pra id131) K mT Ns (pζ id131) (pκ id131) (pΦ id131) (pΨ id131)])) (wr := (rXs cyI cyA cyT pwa pks pts pkr pta psa pra K mT Ns pζ pκ pΦ pΨ pc0 id131 ++ (wF [[(bu, .inl (cyI, 8, .inl b))], cN rn sd, cX cyI cyA cyT wa ks ts kr ta sa ra K mT Ns ζ κ Φ Ψ, [(nb, .inl (cyW, 9, .inr (.inr (.inr (.inr (fun j => (pb j).map pwa))))))]]))) (w1 := fun _ => (wF [cU cyI cyB cyO ua ub up aw as' pa β υ120 ω121 sid122 τs n, cX cyI cyA cyT (pwa id131) (pks id131) (pts id131) (pkr id131) (pta id131) (psa id131) (pra id131) K mT Ns (pζ id131) (pκ id131) (pΦ id131) (pΨ id131)])) ⟨hx, hb, hml, hown, hts⟩ (kL_agrees l hl0 dC dI cyI cyB cyO cyA cyT cyW cyZ ua ub up aw as' kS (pwa id131) (pks id131) (pts id131) (pkr id131) (pta id131) (psa id131) (pra id131) H.size hc) (va_cwS 2 hts (gv_L_agrees_204 hgb) rfl rfl rfl (by decide +kernel) ⟨(Nat.le_of_ble_eq_true rfl), (Nat.le_of_ble_eq_true rfl)⟩) (epre_left hEV (hB.perm ((wperm (L' := [cU cyI cyB cyO ua ub up aw as' pa β υ120 ω121 sid122 τs n, cXs cyI cyA cyT pwa pks pts pkr pta psa pra K mT Ns pζ pκ pΦ pΨ pc0, [(bu, .inl (cyI, 8, .inl b))], cN rn sd, cX cyI cyA cyT wa ks ts kr ta sa ra K mT Ns ζ κ Φ Ψ, [(nb, .inl (cyW, 9, .inr (.inr (.inr (.inr (fun j => (pb j).map pwa))))))]]) [0, 5, 1, 2, 3, 4] (by decide +kernel) rfl rfl).trans (cXs_cut cyI cyA cyT pwa pks pts pkr pta psa pra K mT Ns pζ pκ pΦ pΨ hid131 _ _))) hA hK [.ref ua, .ref (pwa id131)]) hB hA ((wperm (L' := [cU cyI cyB cyO ua ub up aw as' pa β υ120 ω121 sid122 τs n, cXs cyI cyA cyT pwa pks pts pkr pta psa pra K mT Ns pζ pκ pΦ pΨ pc0, [(bu, .inl (cyI, 8, .inl b))], cN rn sd, cX cyI cyA cyT wa ks ts kr ta sa ra K mT Ns ζ κ Φ Ψ, [(nb, .inl (cyW, 9, .inr (.inr (.inr (.inr (fun j => (pb j).map pwa))))))]]) [0, 5, 1, 2, 3, 4] (by decide +kernel) rfl rfl).trans (cXs_cut cyI cyA cyT pwa pks pts pkr pta psa pra K mT Ns pζ pκ pΦ pΨ hid131 _ _)) rfl hl.1 rfl (Nat.le_of_ble_eq_true rfl) dL_law_1054 ⟨Nat.le_trans (m := 500000) (by show _ ≤ 500000; omega) rm_c, Nat.le_trans (m := 6000000) (by show _ ≤ 6000000; omega) rm_s⟩ ?_
          clear hB locs H
          intro r9 _ H locs hr9 hB
          obtain ⟨hr9, z133⟩ := hr9
          rw [hr9]
          replace hB := hB.perm (cXs_cut cyI cyA cyT pwa pks pts pkr pta psa pra K mT Ns pζ pκ pΦ pΨ hid131 _ _).symm
          replace hB := hB.perm (wperm (L' := [cU cyI cyB cyO ua ub up aw as' pa β υ120 ω121 sid122 τs n, [(bu, .inl (cyI, 8, .inl b))], cN rn sd, cX cyI cyA cyT wa ks ts kr ta sa ra K mT Ns ζ κ Φ Ψ, [(nb, .inl (cyW, 9, .inr (.inr (.inr (.inr (fun j => (pb j).map pwa))))))], cXs cyI cyA cyT pwa pks pts pkr pta psa pra K mT Ns pζ pκ pΦ pΨ pc0]) [0, 2, 3, 4, 5, 1] (by decide +kernel) rfl rfl)
          refine lv_if_eq (tgt := 1064) hx hb dL_law_1057 (by decide) (fun c134 => ?_) (fun c134 => ?_)
          · replace hD128 := ite_t c134 hD128
            have e0 := inj1 hD128
            exact kFt127 e0.symm _ _ hB
          · replace hD128 := ite_f c134 hD128
            have e0 := inj1 hD128
            exact kTt127 e0.symm _ _ hB
      have kFt114 : t114 = false → ∀ (H : Heap) (locs : List Loc), Bd (dC, dI) [(cyI, .int), (cyB, .byte), (cyO, .object "UndoJourneys$World"), (cyA, .array .int), (cyT, .object "UndoJourneysLaw$Trip"), (cyW, .object "UndoJourneysLaw$World"), (cyZ, .boolean)] (va_A [] s.heap.size) s (wF [cU cyI cyB cyO ua ub up aw as' pa β υ108 ω109 sid110 τs n, [(bu, .inl (cyI, 8, .inl b))], cN rn sd, cX cyI cyA cyT wa ks ts kr ta sa ra K mT Ns ζ κ Φ Ψ, [(nb, .inl (cyW, 9, .inr (.inr (.inr (.inr (fun j => (pb j).map pwa))))))], cXs cyI cyA cyT pwa pks pts pkr pta psa pra K mT Ns pζ pκ pΦ pΨ pc0]) H locs → W p l e room_1 s m #[Value.ref sb] below meth c H locs (cv111 + 0) (scv111 + 0) (lw_Z below #[Value.ref sb] s) (F0 m 1072 ls []) := by
        intro ht H locs hB
        have hg54 := cnd_f ht hg54
        replace hL53 := el1_l (inj1 hg54) hL53
        refine W.widen (k := (c00 + 18000)) (n := (s00 + 108000)) (by omega) (by omega) ?_
        obtain ⟨e0, e1, e2, e3⟩ := inj4 hL53
        subst e0
        subst e1
        subst e2
        subst e3
        exact kE51 _ _ _ hB (lv_sub hl [3, 4, 5, 6] rfl)
      refine lv_icmp_ge (tgt := 1072) hx hb dL_law_1027 (by decide) (fun c116 => ?_) (fun c116 => ?_)
      · replace hD115 := ite_t c116 hD115
        have e0 := inj1 hD115
        exact kFt114 e0.symm _ _ hB
      · replace hD115 := ite_f c116 hD115
        refine lv_iload hx hb dL_law_1030 (lv_at hl 0 rfl) ?_
        refine lv_iload hx hb dL_law_1032 (lv_at hl 1 rfl) ?_
        refine lv_icmp_ge (tgt := 1072) hx hb dL_law_1034 (by decide) (fun c117 => ?_) (fun c117 => ?_)
        · replace hD115 := ite_t c117 hD115
          have e0 := inj1 hD115
          exact kFt114 e0.symm _ _ hB
        · replace hD115 := ite_f c117 hD115
          refine lv_iload_n hx hb dL_law_1037 rfl (lv_at hl 5 rfl) ?_
          refine lv_if_eq (tgt := 1072) hx hb dL_law_1038 (by decide) (fun c118 => ?_) (fun c118 => ?_)
          · replace hD115 := ite_t c118 hD115
            have e0 := inj1 hD115
            exact kFt114 e0.symm _ _ hB
          · replace hD115 := ite_f c118 hD115
            have e0 := inj1 hD115
            exact kTt114 e0.symm _ _ hB
  refine W.widen (k := (c00 + 0) + (9 - 9) * 2000) (n := (s00 + 0) + (9 - 9) * 12000) (by omega) (by omega) ?_
  exact key52 9 _ _ _ _ _ _ _ _ (Nat.le_refl _) hL53 hB (lv_sub hl [0, 1, 2, 3, 4, 5, 6] rfl)
