/-! the law from 400 to 954 -/
set_option maxHeartbeats 16000000 in
set_option maxRecDepth 100000 in
theorem kR400 {p : Program} {l : Launch} {e : Env} {s : State} {m : MethodId} {below : List Frame} {meth : Method} {c : Code} {sb L : Nat} {xs : Nat → Int32} {dC : Nat → ClassId} {dI : Nat → Nat → Nat} {cyI cyB cyO cyA cyT cyW cyZ : ClassId} {kS : Nat → Nat} (hx : p.tables.exec = Jvm.exec) (hb : c.code = cL_law) (hml : c.maxLocals = 25) (hown : s.vm.findClass RL = some m.cls) (hts : ∀ w ∈ lw_tbl, w.before #[Value.ref sb] s = true) (hX : va_X sb L xs s s.heap) (hbl : sb < s.heap.size) (hbA : ¬ va_A [] s.heap.size sb) (hl0 : l.stackTraces = false) (hK : va_K (dC, dI) vwCl [(cyI, .int), (cyB, .byte), (cyO, .object "UndoJourneys$World"), (cyA, .array .int), (cyT, .object "UndoJourneysLaw$Trip"), (cyW, .object "UndoJourneysLaw$World"), (cyZ, .boolean)] s) (hEV : EV kS (va_A [] s.heap.size) s s.heap) (hr : meth.sig.returnType = ret) (hlocks : meth.locks = false) {ua ub up bu rn nb wa ks ts : Nat} {aw : Nat → Nat → Nat} {kr ta sa : PA} {ra : Nat → PA} {K mT : Nat} {Ns : PA} (hKn : K < 7) (hmT : mT < 9) (hNs : ∀ k, k < mT → Ns k < 10) {as' : Nat → Nat → Nat} {pwa : PA} {pks : PA} {pts : PA} {pkr : Nat → PA} {pta : Nat → PA} {psa : Nat → PA} {pra : Nat → Nat → PA} {pv : Nat} {fu : Nat} {l9 : Int32} {l8 : Int32} {l2 : Int32} {τs : WS} {n : Nat} {pa : PA} {β : FS} {υ : MS} {ω : WS} {sid : PA} {b : FS} {sd : MS} {ζ : MS} {κ : MS} {Φ : WS} {Ψ : WS} {pb : (Nat → Option Nat)} {pζ : WS} {pκ : WS} {pΦ : (Nat → WS)} {pΨ : (Nat → WS)} {pc0 : Nat} {o1 : Int32} {o11 : Int32} {pa_ : PA} {υ_ : MS} {ω_ : WS} {sid_ : PA} {sd_ : MS} {κ_ : MS} (hf : mL_law_R400 fu K mT Ns l9 l8 l2 τs n pa β υ ω sid b sd ζ κ Φ Ψ pb pζ pκ pΦ pΨ pc0 = some (o1, o11, pa_, υ_, ω_, sid_, sd_, κ_)) {H : Heap} {locs : List Loc} {ls : Array Slot} {c00 s00 : Nat} (hc0 : c00 + 2 ≤ 500000) (hs0 : s00 + 12 ≤ 6000000) (hB : Bd (dC, dI) [(cyI, .int), (cyB, .byte), (cyO, .object "UndoJourneys$World"), (cyA, .array .int), (cyT, .object "UndoJourneysLaw$Trip"), (cyW, .object "UndoJourneysLaw$World"), (cyZ, .boolean)] (va_A [] s.heap.size) s (wF [cU cyI cyB cyO ua ub up aw as' pa β υ ω sid τs n, [(bu, .inl (cyI, 8, .inl b))], cN rn sd, cX cyI cyA cyT wa ks ts kr ta sa ra K mT Ns ζ κ Φ Ψ, [(nb, .inl (cyW, 9, .inr (.inr (.inr (.inr (fun j => (pb j).map pwa))))))], cXs cyI cyA cyT pwa pks pts pkr pta psa pra K mT Ns pζ pκ pΦ pΨ pc0]) H locs) (hl : lv_has ls 25 [(10, .ref pv), (9, .int l9), (8, .int l8), (7, .ref nb), (6, .ref wa), (5, .ref rn), (3, .ref ua), (2, .int l2), (0, .ref sb)]) (nxt : ∀ (H : Heap) (locs : List Loc) (ls : Array Slot), Bd (dC, dI) [(cyI, .int), (cyB, .byte), (cyO, .object "UndoJourneys$World"), (cyA, .array .int), (cyT, .object "UndoJourneysLaw$Trip"), (cyW, .object "UndoJourneysLaw$World"), (cyZ, .boolean)] (va_A [] s.heap.size) s (wF [cU cyI cyB cyO ua ub up aw as' pa_ β υ_ ω_ sid_ τs n, [(bu, .inl (cyI, 8, .inl b))], cN rn sd_, cX cyI cyA cyT wa ks ts kr ta sa ra K mT Ns ζ κ_ Φ Ψ, [(nb, .inl (cyW, 9, .inr (.inr (.inr (.inr (fun j => (pb j).map pwa))))))], cXs cyI cyA cyT pwa pks pts pkr pta psa pra K mT Ns pζ pκ pΦ pΨ pc0]) H locs → lv_has ls 25 [(11, .int o11), (10, .ref pv), (9, .int l9), (8, .int l8), (7, .ref nb), (6, .ref wa), (5, .ref rn), (3, .ref ua), (2, .int l2), (1, .int o1), (0, .ref sb)] → W p l e room_1 s m #[Value.ref sb] below meth c H locs (c00 + 2) (s00 + 12) (lw_Z below #[Value.ref sb] s) (F0 m 954 ls [])) : W p l e room_1 s m #[Value.ref sb] below meth c H locs c00 s00 (lw_Z below #[Value.ref sb] s) (F0 m 400 ls []) := by
  obtain ⟨hEX, hNC, hJ, hNw, hNw3, hAOw, hN6, hN5, hAOT, hAOW, hAOA, hCl⟩ := id hEV
  have hA : ∀ q : Nat, s.heap.size ≤ q → va_A [] s.heap.size q := fun q h => Or.inr h
  have hgb : ∀ w ∈ gw_tbl, w ∈ lw_tbl := gw_in
  have hq0 : (Cond.fieldLink RL 112 "UndoJourneysLaw$World" "stocks" "[[I").before _ s = true := hts _ (tb2 26 rfl)
  have hq1 : (Cond.constant RL 52 (-2000000097)).before _ s = true := hts _ (tb3 225 rfl)
  have hq2 : (Cond.constant RL 42 (-2000000098)).before _ s = true := hts _ (tb3 175 rfl)
  have hinX6 : ∀ w ∈ wsX60, w ∈ lw_tbl := t_wsX60
  show W p l e room_1 s m #[Value.ref sb] below meth c H locs (c00 + 0) (s00 + 0) (lw_Z below #[Value.ref sb] s) (F0 m 400 ls [])
  have hrc_restock : rmL_restock.cells = 2 := rfl
  have hrs_restock : rmL_restock.slots = 12 := rfl
  unfold mL_law_R400 at hf
  refine lv_aload hx hb dL_law_400 (lv_at hl 5 rfl) ?_
  refine lv_aload hx hb dL_law_402 (lv_at hl 4 rfl) ?_
  refine g_get (C := RX6) (T := TX6) (N := 6) hx hb hts hinX6 hown hK (hB.perm (wperm (L' := [cX cyI cyA cyT wa ks ts kr ta sa ra K mT Ns ζ κ Φ Ψ, cU cyI cyB cyO ua ub up aw as' pa β υ ω sid τs n, [(bu, .inl (cyI, 8, .inl b))], cN rn sd, [(nb, .inl (cyW, 9, .inr (.inr (.inr (.inr (fun j => (pb j).map pwa))))))], cXs cyI cyA cyT pwa pks pts pkr pta psa pra K mT Ns pζ pκ pΦ pΨ pc0]) [3, 0, 1, 2, 4, 5] (by decide +kernel) rfl rfl)) 0 rfl rfl 4 rfl hq0 rfl rfl dL_law_404 ?_
  refine g_alen hx hb hK (hB.perm (wperm (L' := [cX cyI cyA cyT wa ks ts kr ta sa ra K mT Ns ζ κ Φ Ψ, cU cyI cyB cyO ua ub up aw as' pa β υ ω sid τs n, [(bu, .inl (cyI, 8, .inl b))], cN rn sd, [(nb, .inl (cyW, 9, .inr (.inr (.inr (.inr (fun j => (pb j).map pwa))))))], cXs cyI cyA cyT pwa pks pts pkr pta psa pra K mT Ns pζ pκ pΦ pΨ pc0]) [3, 0, 1, 2, 4, 5] (by decide +kernel) rfl rfl)) 1 3 rfl rfl (v := (nI K)) rfl dL_law_407 ?_
  refine lv_iconst (v := (1 : Int32)) hx hb dL_law_408 (by decide) ?_
  refine lv_iadd hx hb dL_law_409 ?_
  replace hf := ob2_s hf
  obtain ⟨r1, sd2, hc, hf⟩ := hf
  refine e_Vi (S := Unit) (As := [.int ((nI K) + (1 : Int32))]) (rest := []) (wc := cN rn sd) (wr := (wF [cU cyI cyB cyO ua ub up aw as' pa β υ ω sid τs n, [(bu, .inl (cyI, 8, .inl b))], cX cyI cyA cyT wa ks ts kr ta sa ra K mT Ns ζ κ Φ Ψ, [(nb, .inl (cyW, 9, .inr (.inr (.inr (.inr (fun j => (pb j).map pwa))))))], cXs cyI cyA cyT pwa pks pts pkr pta psa pra K mT Ns pζ pκ pΦ pΨ pc0])) (w1 := fun _ => cN rn sd2) ⟨hx, hb, hml, hown, hts⟩ (kX4_below l dC dI rn H.size hc) (cwV 1 hts (gv_X4_below_107 hgb) rfl rfl rfl (by decide +kernel) ⟨(Nat.le_of_ble_eq_true rfl), (Nat.le_of_ble_eq_true rfl)⟩) (pcut_pre (hB.perm (wperm (L' := [cN rn sd, cU cyI cyB cyO ua ub up aw as' pa β υ ω sid τs n, [(bu, .inl (cyI, 8, .inl b))], cX cyI cyA cyT wa ks ts kr ta sa ra K mT Ns ζ κ Φ Ψ, [(nb, .inl (cyW, 9, .inr (.inr (.inr (.inr (fun j => (pb j).map pwa))))))], cXs cyI cyA cyT pwa pks pts pkr pta psa pra K mT Ns pζ pκ pΦ pΨ pc0]) [2, 0, 1, 3, 4, 5] (by decide +kernel) rfl rfl)) (hK.sub [] rfl) (.ref rn :: [.int ((nI K) + (1 : Int32))])) hB hA (g_recv (ci := 4) hK (hB.perm (wperm (L' := [cN rn sd, cU cyI cyB cyO ua ub up aw as' pa β υ ω sid τs n, [(bu, .inl (cyI, 8, .inl b))], cX cyI cyA cyT wa ks ts kr ta sa ra K mT Ns ζ κ Φ Ψ, [(nb, .inl (cyW, 9, .inr (.inr (.inr (.inr (fun j => (pb j).map pwa))))))], cXs cyI cyA cyT pwa pks pts pkr pta psa pra K mT Ns pζ pκ pΦ pΨ pc0]) [2, 0, 1, 3, 4, 5] (by decide +kernel) rfl rfl)) 0 rfl rfl rfl) (wperm (L' := [cN rn sd, cU cyI cyB cyO ua ub up aw as' pa β υ ω sid τs n, [(bu, .inl (cyI, 8, .inl b))], cX cyI cyA cyT wa ks ts kr ta sa ra K mT Ns ζ κ Φ Ψ, [(nb, .inl (cyW, 9, .inr (.inr (.inr (.inr (fun j => (pb j).map pwa))))))], cXs cyI cyA cyT pwa pks pts pkr pta psa pra K mT Ns pζ pκ pΦ pΨ pc0]) [2, 0, 1, 3, 4, 5] (by decide +kernel) rfl rfl) rfl hl.1 rfl (Nat.le_of_ble_eq_true rfl) dL_law_410 ⟨Nat.le_trans (m := 500000) (by show _ ≤ 500000; omega) rm_c, Nat.le_trans (m := 6000000) (by show _ ≤ 6000000; omega) rm_s⟩ ?_
  clear hB locs H
  intro r9 _ H locs hr9 hB
  rw [hr9]
  replace hB := hB.perm wF_un1
  replace hB := hB.perm (wperm (L' := [cU cyI cyB cyO ua ub up aw as' pa β υ ω sid τs n, [(bu, .inl (cyI, 8, .inl b))], cN rn sd2, cX cyI cyA cyT wa ks ts kr ta sa ra K mT Ns ζ κ Φ Ψ, [(nb, .inl (cyW, 9, .inr (.inr (.inr (.inr (fun j => (pb j).map pwa))))))], cXs cyI cyA cyT pwa pks pts pkr pta psa pra K mT Ns pζ pκ pΦ pΨ pc0]) [1, 2, 0, 3, 4, 5] (by decide +kernel) rfl rfl)
  refine lv_istore (lv' := [(17, .int r1), (10, .ref pv), (9, .int l9), (8, .int l8), (7, .ref nb), (6, .ref wa), (5, .ref rn), (3, .ref ua), (2, .int l2), (0, .ref sb)]) hx hb dL_law_413 hl (by decide) rfl ?_
  clear hl ls
  intro ls hl
  refine lv_aload hx hb dL_law_415 (lv_at hl 6 rfl) ?_
  refine lv_aload hx hb dL_law_417 (lv_at hl 6 rfl) ?_
  refine lv_bipush (v := (6 : Int32)) hx hb dL_law_419 (by decide) ?_
  replace hf := ob2_s hf
  obtain ⟨r3, sd4, hc, hf⟩ := hf
  refine e_Vi (S := Unit) (As := [.int (6 : Int32)]) (rest := [.ref rn]) (wc := cN rn sd2) (wr := (wF [cU cyI cyB cyO ua ub up aw as' pa β υ ω sid τs n, [(bu, .inl (cyI, 8, .inl b))], cX cyI cyA cyT wa ks ts kr ta sa ra K mT Ns ζ κ Φ Ψ, [(nb, .inl (cyW, 9, .inr (.inr (.inr (.inr (fun j => (pb j).map pwa))))))], cXs cyI cyA cyT pwa pks pts pkr pta psa pra K mT Ns pζ pκ pΦ pΨ pc0])) (w1 := fun _ => cN rn sd4) ⟨hx, hb, hml, hown, hts⟩ (kX4_below l dC dI rn H.size hc) (cwV 1 hts (gv_X4_below_107 hgb) rfl rfl rfl (by decide +kernel) ⟨(Nat.le_of_ble_eq_true rfl), (Nat.le_of_ble_eq_true rfl)⟩) (pcut_pre (hB.perm (wperm (L' := [cN rn sd2, cU cyI cyB cyO ua ub up aw as' pa β υ ω sid τs n, [(bu, .inl (cyI, 8, .inl b))], cX cyI cyA cyT wa ks ts kr ta sa ra K mT Ns ζ κ Φ Ψ, [(nb, .inl (cyW, 9, .inr (.inr (.inr (.inr (fun j => (pb j).map pwa))))))], cXs cyI cyA cyT pwa pks pts pkr pta psa pra K mT Ns pζ pκ pΦ pΨ pc0]) [2, 0, 1, 3, 4, 5] (by decide +kernel) rfl rfl)) (hK.sub [] rfl) (.ref rn :: [.int (6 : Int32)])) hB hA (g_recv (ci := 4) hK (hB.perm (wperm (L' := [cN rn sd2, cU cyI cyB cyO ua ub up aw as' pa β υ ω sid τs n, [(bu, .inl (cyI, 8, .inl b))], cX cyI cyA cyT wa ks ts kr ta sa ra K mT Ns ζ κ Φ Ψ, [(nb, .inl (cyW, 9, .inr (.inr (.inr (.inr (fun j => (pb j).map pwa))))))], cXs cyI cyA cyT pwa pks pts pkr pta psa pra K mT Ns pζ pκ pΦ pΨ pc0]) [2, 0, 1, 3, 4, 5] (by decide +kernel) rfl rfl)) 0 rfl rfl rfl) (wperm (L' := [cN rn sd2, cU cyI cyB cyO ua ub up aw as' pa β υ ω sid τs n, [(bu, .inl (cyI, 8, .inl b))], cX cyI cyA cyT wa ks ts kr ta sa ra K mT Ns ζ κ Φ Ψ, [(nb, .inl (cyW, 9, .inr (.inr (.inr (.inr (fun j => (pb j).map pwa))))))], cXs cyI cyA cyT pwa pks pts pkr pta psa pra K mT Ns pζ pκ pΦ pΨ pc0]) [2, 0, 1, 3, 4, 5] (by decide +kernel) rfl rfl) rfl hl.1 rfl (Nat.le_of_ble_eq_true rfl) dL_law_421 ⟨Nat.le_trans (m := 500000) (by show _ ≤ 500000; omega) rm_c, Nat.le_trans (m := 6000000) (by show _ ≤ 6000000; omega) rm_s⟩ ?_
  clear hB locs H
  intro r9 _ H locs hr9 hB
  rw [hr9]
  replace hB := hB.perm wF_un1
  replace hB := hB.perm (wperm (L' := [cU cyI cyB cyO ua ub up aw as' pa β υ ω sid τs n, [(bu, .inl (cyI, 8, .inl b))], cN rn sd4, cX cyI cyA cyT wa ks ts kr ta sa ra K mT Ns ζ κ Φ Ψ, [(nb, .inl (cyW, 9, .inr (.inr (.inr (.inr (fun j => (pb j).map pwa))))))], cXs cyI cyA cyT pwa pks pts pkr pta psa pra K mT Ns pζ pκ pΦ pΨ pc0]) [1, 2, 0, 3, 4, 5] (by decide +kernel) rfl rfl)
  replace hf := ob1_s hf
  obtain ⟨v5, hJ6, hf⟩ := hf
  have kJ7 : ∀ (H : Heap) (locs : List Loc) (ls : Array Slot), Bd (dC, dI) [(cyI, .int), (cyB, .byte), (cyO, .object "UndoJourneys$World"), (cyA, .array .int), (cyT, .object "UndoJourneysLaw$Trip"), (cyW, .object "UndoJourneysLaw$World"), (cyZ, .boolean)] (va_A [] s.heap.size) s (wF [cU cyI cyB cyO ua ub up aw as' pa β υ ω sid τs n, [(bu, .inl (cyI, 8, .inl b))], cN rn sd4, cX cyI cyA cyT wa ks ts kr ta sa ra K mT Ns ζ κ Φ Ψ, [(nb, .inl (cyW, 9, .inr (.inr (.inr (.inr (fun j => (pb j).map pwa))))))], cXs cyI cyA cyT pwa pks pts pkr pta psa pra K mT Ns pζ pκ pΦ pΨ pc0]) H locs → lv_has ls 25 [(17, .int r1), (10, .ref pv), (9, .int l9), (8, .int l8), (7, .ref nb), (6, .ref wa), (5, .ref rn), (3, .ref ua), (2, .int l2), (0, .ref sb)] → W p l e room_1 s m #[Value.ref sb] below meth c H locs (c00 + 0) (s00 + 0) (lw_Z below #[Value.ref sb] s) (F0 m 435 ls [.int v5, .ref rn]) := by
    clear hB hl ls locs H
    intro H locs ls hB hl
    replace hf := ob2_s hf
    obtain ⟨r11, sd12, hc, hf⟩ := hf
    refine e_Vi (S := Unit) (As := [.int v5]) (rest := []) (wc := cN rn sd4) (wr := (wF [cU cyI cyB cyO ua ub up aw as' pa β υ ω sid τs n, [(bu, .inl (cyI, 8, .inl b))], cX cyI cyA cyT wa ks ts kr ta sa ra K mT Ns ζ κ Φ Ψ, [(nb, .inl (cyW, 9, .inr (.inr (.inr (.inr (fun j => (pb j).map pwa))))))], cXs cyI cyA cyT pwa pks pts pkr pta psa pra K mT Ns pζ pκ pΦ pΨ pc0])) (w1 := fun _ => cN rn sd12) ⟨hx, hb, hml, hown, hts⟩ (kX4_below l dC dI rn H.size hc) (cwV 1 hts (gv_X4_below_107 hgb) rfl rfl rfl (by decide +kernel) ⟨(Nat.le_of_ble_eq_true rfl), (Nat.le_of_ble_eq_true rfl)⟩) (pcut_pre (hB.perm (wperm (L' := [cN rn sd4, cU cyI cyB cyO ua ub up aw as' pa β υ ω sid τs n, [(bu, .inl (cyI, 8, .inl b))], cX cyI cyA cyT wa ks ts kr ta sa ra K mT Ns ζ κ Φ Ψ, [(nb, .inl (cyW, 9, .inr (.inr (.inr (.inr (fun j => (pb j).map pwa))))))], cXs cyI cyA cyT pwa pks pts pkr pta psa pra K mT Ns pζ pκ pΦ pΨ pc0]) [2, 0, 1, 3, 4, 5] (by decide +kernel) rfl rfl)) (hK.sub [] rfl) (.ref rn :: [.int v5])) hB hA (g_recv (ci := 4) hK (hB.perm (wperm (L' := [cN rn sd4, cU cyI cyB cyO ua ub up aw as' pa β υ ω sid τs n, [(bu, .inl (cyI, 8, .inl b))], cX cyI cyA cyT wa ks ts kr ta sa ra K mT Ns ζ κ Φ Ψ, [(nb, .inl (cyW, 9, .inr (.inr (.inr (.inr (fun j => (pb j).map pwa))))))], cXs cyI cyA cyT pwa pks pts pkr pta psa pra K mT Ns pζ pκ pΦ pΨ pc0]) [2, 0, 1, 3, 4, 5] (by decide +kernel) rfl rfl)) 0 rfl rfl rfl) (wperm (L' := [cN rn sd4, cU cyI cyB cyO ua ub up aw as' pa β υ ω sid τs n, [(bu, .inl (cyI, 8, .inl b))], cX cyI cyA cyT wa ks ts kr ta sa ra K mT Ns ζ κ Φ Ψ, [(nb, .inl (cyW, 9, .inr (.inr (.inr (.inr (fun j => (pb j).map pwa))))))], cXs cyI cyA cyT pwa pks pts pkr pta psa pra K mT Ns pζ pκ pΦ pΨ pc0]) [2, 0, 1, 3, 4, 5] (by decide +kernel) rfl rfl) rfl hl.1 rfl (Nat.le_of_ble_eq_true rfl) dL_law_435 ⟨Nat.le_trans (m := 500000) (by show _ ≤ 500000; omega) rm_c, Nat.le_trans (m := 6000000) (by show _ ≤ 6000000; omega) rm_s⟩ ?_
    clear hB locs H
    intro r9 _ H locs hr9 hB
    rw [hr9]
    replace hB := hB.perm wF_un1
    replace hB := hB.perm (wperm (L' := [cU cyI cyB cyO ua ub up aw as' pa β υ ω sid τs n, [(bu, .inl (cyI, 8, .inl b))], cN rn sd12, cX cyI cyA cyT wa ks ts kr ta sa ra K mT Ns ζ κ Φ Ψ, [(nb, .inl (cyW, 9, .inr (.inr (.inr (.inr (fun j => (pb j).map pwa))))))], cXs cyI cyA cyT pwa pks pts pkr pta psa pra K mT Ns pζ pκ pΦ pΨ pc0]) [1, 2, 0, 3, 4, 5] (by decide +kernel) rfl rfl)
    refine lv_istore (lv' := [(18, .int r11), (17, .int r1), (10, .ref pv), (9, .int l9), (8, .int l8), (7, .ref nb), (6, .ref wa), (5, .ref rn), (3, .ref ua), (2, .int l2), (0, .ref sb)]) hx hb dL_law_438 hl (by decide) rfl ?_
    clear hl ls
    intro ls hl
    refine lv_iload hx hb dL_law_440 (lv_at hl 0 rfl) ?_
    replace hf := ob1_s hf
    obtain ⟨v13, hJ15, hf⟩ := hf
    have kJ16 : (v13 = 0 ∨ v13 = 1) → ∀ (H : Heap) (locs : List Loc) (ls : Array Slot), Bd (dC, dI) [(cyI, .int), (cyB, .byte), (cyO, .object "UndoJourneys$World"), (cyA, .array .int), (cyT, .object "UndoJourneysLaw$Trip"), (cyW, .object "UndoJourneysLaw$World"), (cyZ, .boolean)] (va_A [] s.heap.size) s (wF [cU cyI cyB cyO ua ub up aw as' pa β υ ω sid τs n, [(bu, .inl (cyI, 8, .inl b))], cN rn sd12, cX cyI cyA cyT wa ks ts kr ta sa ra K mT Ns ζ κ Φ Ψ, [(nb, .inl (cyW, 9, .inr (.inr (.inr (.inr (fun j => (pb j).map pwa))))))], cXs cyI cyA cyT pwa pks pts pkr pta psa pra K mT Ns pζ pκ pΦ pΨ pc0]) H locs → lv_has ls 25 [(18, .int r11), (17, .int r1), (10, .ref pv), (9, .int l9), (8, .int l8), (7, .ref nb), (6, .ref wa), (5, .ref rn), (3, .ref ua), (2, .int l2), (0, .ref sb)] → W p l e room_1 s m #[Value.ref sb] below meth c H locs (c00 + 0) (s00 + 0) (lw_Z below #[Value.ref sb] s) (F0 m 458 ls [.int v13]) := by
      clear hB hl ls locs H
      intro z14 H locs ls hB hl
      refine lv_istore (lv' := [(19, .int v13), (18, .int r11), (17, .int r1), (10, .ref pv), (9, .int l9), (8, .int l8), (7, .ref nb), (6, .ref wa), (5, .ref rn), (3, .ref ua), (2, .int l2), (0, .ref sb)]) hx hb dL_law_458 hl (by decide) rfl ?_
      clear hl ls
      intro ls hl
      refine lv_iload hx hb dL_law_460 (lv_at hl 2 rfl) ?_
      refine lv_aload hx hb dL_law_462 (lv_at hl 7 rfl) ?_
      refine g_get (C := RX6) (T := TX6) (N := 6) hx hb hts hinX6 hown hK (hB.perm (wperm (L' := [cX cyI cyA cyT wa ks ts kr ta sa ra K mT Ns ζ κ Φ Ψ, cU cyI cyB cyO ua ub up aw as' pa β υ ω sid τs n, [(bu, .inl (cyI, 8, .inl b))], cN rn sd12, [(nb, .inl (cyW, 9, .inr (.inr (.inr (.inr (fun j => (pb j).map pwa))))))], cXs cyI cyA cyT pwa pks pts pkr pta psa pra K mT Ns pζ pκ pΦ pΨ pc0]) [3, 0, 1, 2, 4, 5] (by decide +kernel) rfl rfl)) 0 rfl rfl 4 rfl hq0 rfl rfl dL_law_464 ?_
      refine g_alen hx hb hK (hB.perm (wperm (L' := [cX cyI cyA cyT wa ks ts kr ta sa ra K mT Ns ζ κ Φ Ψ, cU cyI cyB cyO ua ub up aw as' pa β υ ω sid τs n, [(bu, .inl (cyI, 8, .inl b))], cN rn sd12, [(nb, .inl (cyW, 9, .inr (.inr (.inr (.inr (fun j => (pb j).map pwa))))))], cXs cyI cyA cyT pwa pks pts pkr pta psa pra K mT Ns pζ pκ pΦ pΨ pc0]) [3, 0, 1, 2, 4, 5] (by decide +kernel) rfl rfl)) 1 3 rfl rfl (v := (nI K)) rfl dL_law_467 ?_
      replace hf := ob1_s hf
      obtain ⟨v21, hJ23, hf⟩ := hf
      have kJ24 : (v21 = 0 ∨ v21 = 1) → ∀ (H : Heap) (locs : List Loc) (ls : Array Slot), Bd (dC, dI) [(cyI, .int), (cyB, .byte), (cyO, .object "UndoJourneys$World"), (cyA, .array .int), (cyT, .object "UndoJourneysLaw$Trip"), (cyW, .object "UndoJourneysLaw$World"), (cyZ, .boolean)] (va_A [] s.heap.size) s (wF [cU cyI cyB cyO ua ub up aw as' pa β υ ω sid τs n, [(bu, .inl (cyI, 8, .inl b))], cN rn sd12, cX cyI cyA cyT wa ks ts kr ta sa ra K mT Ns ζ κ Φ Ψ, [(nb, .inl (cyW, 9, .inr (.inr (.inr (.inr (fun j => (pb j).map pwa))))))], cXs cyI cyA cyT pwa pks pts pkr pta psa pra K mT Ns pζ pκ pΦ pΨ pc0]) H locs → lv_has ls 25 [(18, .int r11), (17, .int r1), (10, .ref pv), (9, .int l9), (8, .int l8), (7, .ref nb), (6, .ref wa), (5, .ref rn), (3, .ref ua), (2, .int l2), (0, .ref sb)] → W p l e room_1 s m #[Value.ref sb] below meth c H locs (c00 + 0) (s00 + 0) (lw_Z below #[Value.ref sb] s) (F0 m 481 ls [.int v21]) := by
        clear hB hl ls locs H
        intro z22 H locs ls hB hl
        refine lv_istore (lv' := [(11, .int v21), (18, .int r11), (17, .int r1), (10, .ref pv), (9, .int l9), (8, .int l8), (7, .ref nb), (6, .ref wa), (5, .ref rn), (3, .ref ua), (2, .int l2), (0, .ref sb)]) hx hb dL_law_481 hl (by decide) rfl ?_
        clear hl ls
        intro ls hl
        refine lv_iload hx hb dL_law_483 (lv_at hl 2 rfl) ?_
        refine lv_aload hx hb dL_law_485 (lv_at hl 7 rfl) ?_
        refine g_get (C := RX6) (T := TX6) (N := 6) hx hb hts hinX6 hown hK (hB.perm (wperm (L' := [cX cyI cyA cyT wa ks ts kr ta sa ra K mT Ns ζ κ Φ Ψ, cU cyI cyB cyO ua ub up aw as' pa β υ ω sid τs n, [(bu, .inl (cyI, 8, .inl b))], cN rn sd12, [(nb, .inl (cyW, 9, .inr (.inr (.inr (.inr (fun j => (pb j).map pwa))))))], cXs cyI cyA cyT pwa pks pts pkr pta psa pra K mT Ns pζ pκ pΦ pΨ pc0]) [3, 0, 1, 2, 4, 5] (by decide +kernel) rfl rfl)) 0 rfl rfl 4 rfl hq0 rfl rfl dL_law_487 ?_
        refine g_alen hx hb hK (hB.perm (wperm (L' := [cX cyI cyA cyT wa ks ts kr ta sa ra K mT Ns ζ κ Φ Ψ, cU cyI cyB cyO ua ub up aw as' pa β υ ω sid τs n, [(bu, .inl (cyI, 8, .inl b))], cN rn sd12, [(nb, .inl (cyW, 9, .inr (.inr (.inr (.inr (fun j => (pb j).map pwa))))))], cXs cyI cyA cyT pwa pks pts pkr pta psa pra K mT Ns pζ pκ pΦ pΨ pc0]) [3, 0, 1, 2, 4, 5] (by decide +kernel) rfl rfl)) 1 3 rfl rfl (v := (nI K)) rfl dL_law_490 ?_
        replace hf := ob1_s hf
        obtain ⟨v29, hJ30, hf⟩ := hf
        have kJ31 : ∀ (H : Heap) (locs : List Loc) (ls : Array Slot), Bd (dC, dI) [(cyI, .int), (cyB, .byte), (cyO, .object "UndoJourneys$World"), (cyA, .array .int), (cyT, .object "UndoJourneysLaw$Trip"), (cyW, .object "UndoJourneysLaw$World"), (cyZ, .boolean)] (va_A [] s.heap.size) s (wF [cU cyI cyB cyO ua ub up aw as' pa β υ ω sid τs n, [(bu, .inl (cyI, 8, .inl b))], cN rn sd12, cX cyI cyA cyT wa ks ts kr ta sa ra K mT Ns ζ κ Φ Ψ, [(nb, .inl (cyW, 9, .inr (.inr (.inr (.inr (fun j => (pb j).map pwa))))))], cXs cyI cyA cyT pwa pks pts pkr pta psa pra K mT Ns pζ pκ pΦ pΨ pc0]) H locs → lv_has ls 25 [(11, .int v21), (18, .int r11), (17, .int r1), (10, .ref pv), (9, .int l9), (8, .int l8), (7, .ref nb), (6, .ref wa), (5, .ref rn), (3, .ref ua), (2, .int l2), (0, .ref sb)] → W p l e room_1 s m #[Value.ref sb] below meth c H locs (c00 + 0) (s00 + 0) (lw_Z below #[Value.ref sb] s) (F0 m 501 ls [.int v29]) := by
          clear hB hl ls locs H
          intro H locs ls hB hl
          refine lv_istore (lv' := [(12, .int v29), (11, .int v21), (18, .int r11), (17, .int r1), (10, .ref pv), (9, .int l9), (8, .int l8), (7, .ref nb), (6, .ref wa), (5, .ref rn), (3, .ref ua), (2, .int l2), (0, .ref sb)]) hx hb dL_law_501 hl (by decide) rfl ?_
          clear hl ls
          intro ls hl
          refine lv_iload hx hb dL_law_503 (lv_at hl 1 rfl) ?_
          replace hf := ob2_s hf
          obtain ⟨v33, κ34, hJ35, hf⟩ := hf
          have kJ36 : ∀ (H : Heap) (locs : List Loc) (ls : Array Slot), Bd (dC, dI) [(cyI, .int), (cyB, .byte), (cyO, .object "UndoJourneys$World"), (cyA, .array .int), (cyT, .object "UndoJourneysLaw$Trip"), (cyW, .object "UndoJourneysLaw$World"), (cyZ, .boolean)] (va_A [] s.heap.size) s (wF [cU cyI cyB cyO ua ub up aw as' pa β υ ω sid τs n, [(bu, .inl (cyI, 8, .inl b))], cN rn sd12, cX cyI cyA cyT wa ks ts kr ta sa ra K mT Ns ζ κ34 Φ Ψ, [(nb, .inl (cyW, 9, .inr (.inr (.inr (.inr (fun j => (pb j).map pwa))))))], cXs cyI cyA cyT pwa pks pts pkr pta psa pra K mT Ns pζ pκ pΦ pΨ pc0]) H locs → lv_has ls 25 [(12, .int v33), (11, .int v21), (18, .int r11), (17, .int r1), (10, .ref pv), (9, .int l9), (8, .int l8), (7, .ref nb), (6, .ref wa), (5, .ref rn), (3, .ref ua), (2, .int l2), (0, .ref sb)] → W p l e room_1 s m #[Value.ref sb] below meth c H locs (c00 + 0) (s00 + 0) (lw_Z below #[Value.ref sb] s) (F0 m 535 ls []) := by
            clear hB hl ls locs H
            intro H locs ls hB hl
            refine lv_aload_n hx hb dL_law_535 rfl (lv_at hl 10 rfl) ?_
            refine lv_iload hx hb dL_law_536 (lv_at hl 3 rfl) ?_
            refine lv_iload hx hb dL_law_538 (lv_at hl 2 rfl) ?_
            replace hf := ob1_s hf
            obtain ⟨o43, hc, hf⟩ := hf
            obtain ⟨hc, hE9⟩ := hEl_s hc
            replace hf := ob1_s hf
            obtain ⟨r44, er9, hf⟩ := hf
            replace er9 := inj1 er9
            replace hf := ob1_s hf
            obtain ⟨pa45, epa45, hf⟩ := hf
            replace epa45 := inj1 epa45
            replace hf := ob1_s hf
            obtain ⟨υ46, eυ46, hf⟩ := hf
            replace eυ46 := inj1 eυ46
            replace hf := ob1_s hf
            obtain ⟨ω47, eω47, hf⟩ := hf
            replace eω47 := inj1 eω47
            replace hf := ob1_s hf
            obtain ⟨sid48, esid48, hf⟩ := hf
            replace esid48 := inj1 esid48
            refine e_Wi (S := Unit) (As := [.ref ua, .int r1, .int r11]) (rest := []) (wc := cU cyI cyB cyO ua ub up aw as' pa β υ ω sid τs n) (wr := (wF [[(bu, .inl (cyI, 8, .inl b))], cN rn sd12, cX cyI cyA cyT wa ks ts kr ta sa ra K mT Ns ζ κ34 Φ Ψ, [(nb, .inl (cyW, 9, .inr (.inr (.inr (.inr (fun j => (pb j).map pwa))))))], cXs cyI cyA cyT pwa pks pts pkr pta psa pra K mT Ns pζ pκ pΦ pΨ pc0])) (w1 := fun _ => xU (cU cyI cyB cyO ua ub up aw as' pa β υ ω sid τs n) (fun x => (cU cyI cyB cyO ua ub up aw as' (x.2.1) β (x.2.2.1) (x.2.2.2.1) (x.2.2.2.2) τs n)) o43) ⟨hx, hb, hml, hown, hts⟩ (kL_restock l hl0 dC dI cyI cyB cyO cyA cyT cyW cyZ ua ub up aw as' kS H.size hc hE9) (vx_cwSW 3 hts (gv_L_restock_215 hgb) rfl rfl rfl (by decide +kernel) ⟨(Nat.le_of_ble_eq_true rfl), (Nat.le_of_ble_eq_true rfl)⟩) (epre_left hEV (hB.perm (wperm (L' := [cU cyI cyB cyO ua ub up aw as' pa β υ ω sid τs n, [(bu, .inl (cyI, 8, .inl b))], cN rn sd12, cX cyI cyA cyT wa ks ts kr ta sa ra K mT Ns ζ κ34 Φ Ψ, [(nb, .inl (cyW, 9, .inr (.inr (.inr (.inr (fun j => (pb j).map pwa))))))], cXs cyI cyA cyT pwa pks pts pkr pta psa pra K mT Ns pζ pκ pΦ pΨ pc0]) [0, 1, 2, 3, 4, 5] (by decide +kernel) rfl rfl)) hA hK [.ref ua, .int r1, .int r11]) hB hA (wperm (L' := [cU cyI cyB cyO ua ub up aw as' pa β υ ω sid τs n, [(bu, .inl (cyI, 8, .inl b))], cN rn sd12, cX cyI cyA cyT wa ks ts kr ta sa ra K mT Ns ζ κ34 Φ Ψ, [(nb, .inl (cyW, 9, .inr (.inr (.inr (.inr (fun j => (pb j).map pwa))))))], cXs cyI cyA cyT pwa pks pts pkr pta psa pra K mT Ns pζ pκ pΦ pΨ pc0]) [0, 1, 2, 3, 4, 5] (by decide +kernel) rfl rfl) rfl hl.1 rfl (Nat.le_of_ble_eq_true rfl) dL_law_540 ⟨Nat.le_trans (m := 500000) (by show _ ≤ 500000; omega) rm_c, Nat.le_trans (m := 6000000) (by show _ ≤ 6000000; omega) rm_s⟩ ?_
            clear hB locs H
            intro r9 _ H locs hr9 hB
            rw [hr9, er9]
            have e9 : xU (cU cyI cyB cyO ua ub up aw as' pa β υ ω sid τs n) (fun x => (cU cyI cyB cyO ua ub up aw as' (x.2.1) β (x.2.2.1) (x.2.2.2.1) (x.2.2.2.2) τs n)) o43 = cU cyI cyB cyO ua ub up aw as' pa45 β υ46 ω47 sid48 τs n := by rw [← epa45, ← eυ46, ← eω47, ← esid48]; cases o43 <;> rfl
            replace hB := (congrArg (fun z : va_W => Bd (dC, dI) [(cyI, .int), (cyB, .byte), (cyO, .object "UndoJourneys$World"), (cyA, .array .int), (cyT, .object "UndoJourneysLaw$Trip"), (cyW, .object "UndoJourneysLaw$World"), (cyZ, .boolean)] (va_A [] s.heap.size) s (z ++ (wF [[(bu, .inl (cyI, 8, .inl b))], cN rn sd12, cX cyI cyA cyT wa ks ts kr ta sa ra K mT Ns ζ κ34 Φ Ψ, [(nb, .inl (cyW, 9, .inr (.inr (.inr (.inr (fun j => (pb j).map pwa))))))], cXs cyI cyA cyT pwa pks pts pkr pta psa pra K mT Ns pζ pκ pΦ pΨ pc0])) H locs) e9).mp hB
            replace hB := hB.perm wF_un1
            replace hB := hB.perm (wperm (L' := [cU cyI cyB cyO ua ub up aw as' pa45 β υ46 ω47 sid48 τs n, [(bu, .inl (cyI, 8, .inl b))], cN rn sd12, cX cyI cyA cyT wa ks ts kr ta sa ra K mT Ns ζ κ34 Φ Ψ, [(nb, .inl (cyW, 9, .inr (.inr (.inr (.inr (fun j => (pb j).map pwa))))))], cXs cyI cyA cyT pwa pks pts pkr pta psa pra K mT Ns pζ pκ pΦ pΨ pc0]) [0, 1, 2, 3, 4, 5] (by decide +kernel) rfl rfl)
            refine lv_iload hx hb dL_law_543 (lv_at hl 0 rfl) ?_
            replace hf := ob1_s hf
            obtain ⟨v49, hJ51, hf⟩ := hf
            have kJ52 : (v49 = 0 ∨ v49 = 1) → ∀ (H : Heap) (locs : List Loc) (ls : Array Slot), Bd (dC, dI) [(cyI, .int), (cyB, .byte), (cyO, .object "UndoJourneys$World"), (cyA, .array .int), (cyT, .object "UndoJourneysLaw$Trip"), (cyW, .object "UndoJourneysLaw$World"), (cyZ, .boolean)] (va_A [] s.heap.size) s (wF [cU cyI cyB cyO ua ub up aw as' pa45 β υ46 ω47 sid48 τs n, [(bu, .inl (cyI, 8, .inl b))], cN rn sd12, cX cyI cyA cyT wa ks ts kr ta sa ra K mT Ns ζ κ34 Φ Ψ, [(nb, .inl (cyW, 9, .inr (.inr (.inr (.inr (fun j => (pb j).map pwa))))))], cXs cyI cyA cyT pwa pks pts pkr pta psa pra K mT Ns pζ pκ pΦ pΨ pc0]) H locs → lv_has ls 25 [(11, .int v21), (10, .ref pv), (9, .int l9), (8, .int l8), (7, .ref nb), (6, .ref wa), (5, .ref rn), (3, .ref ua), (2, .int l2), (0, .ref sb)] → W p l e room_1 s m #[Value.ref sb] below meth c H locs (c00 + 2) (s00 + 12) (lw_Z below #[Value.ref sb] s) (F0 m 553 ls [.int v49]) := by
              clear hB hl ls locs H
              intro z50 H locs ls hB hl
              refine lv_istore_n (lv' := [(1, .int v49), (11, .int v21), (10, .ref pv), (9, .int l9), (8, .int l8), (7, .ref nb), (6, .ref wa), (5, .ref rn), (3, .ref ua), (2, .int l2), (0, .ref sb)]) hx hb dL_law_553 rfl hl (by decide) rfl ?_
              clear hl ls
              intro ls hl
              refine lv_goto (tgt := 954) hx hb dL_law_554 (by decide) ?_
              obtain ⟨e0, e1, e2, e3, e4, e5, e6, e7⟩ := inj8 hf
              subst e0
              subst e1
              subst e2
              subst e3
              subst e4
              subst e5
              subst e6
              subst e7
              exact nxt _ _ _ hB (lv_sub hl [1, 2, 3, 4, 5, 6, 7, 8, 9, 0, 10] rfl)
            refine lv_icmp_ne (tgt := 552) hx hb dL_law_545 (by decide) (fun c53 => ?_) (fun c53 => ?_)
            · replace hJ51 := ite_f c53 hJ51
              refine lv_iconst (v := (0 : Int32)) hx hb dL_law_552 (by decide) ?_
              have e0 := inj1 hJ51
              subst e0
              exact kJ52 (Or.inl rfl) _ _ _ hB (lv_sub hl [1, 4, 5, 6, 7, 8, 9, 10, 11, 12] rfl)
            · replace hJ51 := ite_t c53 hJ51
              refine lv_iconst (v := (1 : Int32)) hx hb dL_law_548 (by decide) ?_
              refine lv_goto (tgt := 553) hx hb dL_law_549 (by decide) ?_
              have e0 := inj1 hJ51
              subst e0
              exact kJ52 (Or.inr rfl) _ _ _ hB (lv_sub hl [1, 4, 5, 6, 7, 8, 9, 10, 11, 12] rfl)
          refine lv_if_eq (tgt := 535) hx hb dL_law_505 (by decide) (fun c37 => ?_) (fun c37 => ?_)
          · replace hJ35 := ite_t c37 hJ35
            obtain ⟨e0, e1⟩ := inj2 hJ35
            subst e0
            subst e1
            exact kJ36 _ _ _ hB (lv_sub hl [0, 1, 2, 3, 4, 5, 6, 7, 8, 9, 10, 11, 12] rfl)
          · replace hJ35 := ite_f c37 hJ35
            refine lv_aload hx hb dL_law_508 (lv_at hl 8 rfl) ?_
            refine g_get (C := RX6) (T := TX6) (N := 6) hx hb hts hinX6 hown hK (hB.perm (wperm (L' := [cX cyI cyA cyT wa ks ts kr ta sa ra K mT Ns ζ κ Φ Ψ, cU cyI cyB cyO ua ub up aw as' pa β υ ω sid τs n, [(bu, .inl (cyI, 8, .inl b))], cN rn sd12, [(nb, .inl (cyW, 9, .inr (.inr (.inr (.inr (fun j => (pb j).map pwa))))))], cXs cyI cyA cyT pwa pks pts pkr pta psa pra K mT Ns pζ pκ pΦ pΨ pc0]) [3, 0, 1, 2, 4, 5] (by decide +kernel) rfl rfl)) 0 rfl rfl 4 rfl hq0 rfl rfl dL_law_510 ?_
            refine lv_iload hx hb dL_law_513 (lv_at hl 3 rfl) ?_
            replace hJ35 := ob1_s hJ35
            obtain ⟨j38, e9, hJ35⟩ := hJ35
            obtain ⟨h_j38, e9⟩ := hixn_s e9
            refine g_aald hx hb hK (hB.perm (wperm (L' := [cX cyI cyA cyT wa ks ts kr ta sa ra K mT Ns ζ κ Φ Ψ, cU cyI cyB cyO ua ub up aw as' pa β υ ω sid τs n, [(bu, .inl (cyI, 8, .inl b))], cN rn sd12, [(nb, .inl (cyW, 9, .inr (.inr (.inr (.inr (fun j => (pb j).map pwa))))))], cXs cyI cyA cyT pwa pks pts pkr pta psa pra K mT Ns pζ pκ pΦ pΨ pc0]) [3, 0, 1, 2, 4, 5] (by decide +kernel) rfl rfl)) 1 3 rfl rfl e9 dL_law_515 ?_
            refine lv_iconst (v := (0 : Int32)) hx hb dL_law_516 (by decide) ?_
            refine lv_dup2_11 hx hb dL_law_517 rfl rfl ?_
            replace hJ35 := ob1_s hJ35
            obtain ⟨x39, e9, hJ35⟩ := hJ35
            refine g_iald hx hb hK (hB.perm (wperm (L' := [cX cyI cyA cyT wa ks ts kr ta sa ra K mT Ns ζ κ Φ Ψ, cU cyI cyB cyO ua ub up aw as' pa β υ ω sid τs n, [(bu, .inl (cyI, 8, .inl b))], cN rn sd12, [(nb, .inl (cyW, 9, .inr (.inr (.inr (.inr (fun j => (pb j).map pwa))))))], cXs cyI cyA cyT pwa pks pts pkr pta psa pra K mT Ns pζ pκ pΦ pΨ pc0]) [3, 0, 1, 2, 4, 5] (by decide +kernel) rfl rfl)) (3 + j38) 0 (cX_krowr cyI cyA cyT wa ks ts kr ta sa ra K mT Ns ζ κ Φ Ψ h_j38 _) rfl (rd_s e9) dL_law_518 ?_
            refine lv_iload hx hb dL_law_519 (lv_at hl 2 rfl) ?_
            refine lv_iadd hx hb dL_law_521 ?_
            replace hJ35 := ob1_s hJ35
            obtain ⟨κ40, e9, hJ35⟩ := hJ35
            obtain ⟨hi, e9⟩ := wra_s e9
            refine g_iast hx hb hK (hB.perm (wperm (L' := [cX cyI cyA cyT wa ks ts kr ta sa ra K mT Ns ζ κ Φ Ψ, cU cyI cyB cyO ua ub up aw as' pa β υ ω sid τs n, [(bu, .inl (cyI, 8, .inl b))], cN rn sd12, [(nb, .inl (cyW, 9, .inr (.inr (.inr (.inr (fun j => (pb j).map pwa))))))], cXs cyI cyA cyT pwa pks pts pkr pta psa pra K mT Ns pζ pκ pΦ pΨ pc0]) [3, 0, 1, 2, 4, 5] (by decide +kernel) rfl rfl)) (3 + j38) 0 (cX_krowr cyI cyA cyT wa ks ts kr ta sa ra K mT Ns ζ κ Φ Ψ h_j38 _) rfl hi rfl dL_law_522 (w2 := (wF [cX cyI cyA cyT wa ks ts kr ta sa ra K mT Ns ζ κ40 Φ Ψ, cU cyI cyB cyO ua ub up aw as' pa β υ ω sid τs n, [(bu, .inl (cyI, 8, .inl b))], cN rn sd12, [(nb, .inl (cyW, 9, .inr (.inr (.inr (.inr (fun j => (pb j).map pwa))))))], cXs cyI cyA cyT pwa pks pts pkr pta psa pra K mT Ns pζ pκ pΦ pΨ pc0])) (by rw [← e9]; exact cX_ksetr cyI cyA cyT wa ks ts kr ta sa ra K mT Ns ζ κ Φ Ψ h_j38 _ _) ?_
            clear hB locs H
            intro H locs hB
            replace hB := hB.perm (wperm (L' := [cU cyI cyB cyO ua ub up aw as' pa β υ ω sid τs n, [(bu, .inl (cyI, 8, .inl b))], cN rn sd12, cX cyI cyA cyT wa ks ts kr ta sa ra K mT Ns ζ κ40 Φ Ψ, [(nb, .inl (cyW, 9, .inr (.inr (.inr (.inr (fun j => (pb j).map pwa))))))], cXs cyI cyA cyT pwa pks pts pkr pta psa pra K mT Ns pζ pκ pΦ pΨ pc0]) [1, 2, 3, 0, 4, 5] (by decide +kernel) rfl rfl)
            refine lv_aload hx hb dL_law_523 (lv_at hl 8 rfl) ?_
            refine g_get (C := RX6) (T := TX6) (N := 6) hx hb hts hinX6 hown hK (hB.perm (wperm (L' := [cX cyI cyA cyT wa ks ts kr ta sa ra K mT Ns ζ κ40 Φ Ψ, cU cyI cyB cyO ua ub up aw as' pa β υ ω sid τs n, [(bu, .inl (cyI, 8, .inl b))], cN rn sd12, [(nb, .inl (cyW, 9, .inr (.inr (.inr (.inr (fun j => (pb j).map pwa))))))], cXs cyI cyA cyT pwa pks pts pkr pta psa pra K mT Ns pζ pκ pΦ pΨ pc0]) [3, 0, 1, 2, 4, 5] (by decide +kernel) rfl rfl)) 0 rfl rfl 4 rfl hq0 rfl rfl dL_law_525 ?_
            refine lv_iload hx hb dL_law_528 (lv_at hl 3 rfl) ?_
            replace hJ35 := ob1_s hJ35
            obtain ⟨j41, e9, hJ35⟩ := hJ35
            obtain ⟨h_j41, e9⟩ := hixn_s e9
            refine g_aald hx hb hK (hB.perm (wperm (L' := [cX cyI cyA cyT wa ks ts kr ta sa ra K mT Ns ζ κ40 Φ Ψ, cU cyI cyB cyO ua ub up aw as' pa β υ ω sid τs n, [(bu, .inl (cyI, 8, .inl b))], cN rn sd12, [(nb, .inl (cyW, 9, .inr (.inr (.inr (.inr (fun j => (pb j).map pwa))))))], cXs cyI cyA cyT pwa pks pts pkr pta psa pra K mT Ns pζ pκ pΦ pΨ pc0]) [3, 0, 1, 2, 4, 5] (by decide +kernel) rfl rfl)) 1 3 rfl rfl e9 dL_law_530 ?_
            refine lv_iconst (v := (0 : Int32)) hx hb dL_law_531 (by decide) ?_
            replace hJ35 := ob1_s hJ35
            obtain ⟨x42, e9, hJ35⟩ := hJ35
            refine g_iald hx hb hK (hB.perm (wperm (L' := [cX cyI cyA cyT wa ks ts kr ta sa ra K mT Ns ζ κ40 Φ Ψ, cU cyI cyB cyO ua ub up aw as' pa β υ ω sid τs n, [(bu, .inl (cyI, 8, .inl b))], cN rn sd12, [(nb, .inl (cyW, 9, .inr (.inr (.inr (.inr (fun j => (pb j).map pwa))))))], cXs cyI cyA cyT pwa pks pts pkr pta psa pra K mT Ns pζ pκ pΦ pΨ pc0]) [3, 0, 1, 2, 4, 5] (by decide +kernel) rfl rfl)) (3 + j41) 0 (cX_krowr cyI cyA cyT wa ks ts kr ta sa ra K mT Ns ζ κ40 Φ Ψ h_j41 _) rfl (rd_s e9) dL_law_532 ?_
            refine lv_istore (lv' := [(12, .int x42), (11, .int v21), (18, .int r11), (17, .int r1), (10, .ref pv), (9, .int l9), (8, .int l8), (7, .ref nb), (6, .ref wa), (5, .ref rn), (3, .ref ua), (2, .int l2), (0, .ref sb)]) hx hb dL_law_533 hl (by decide) rfl ?_
            clear hl ls
            intro ls hl
            obtain ⟨e0, e1⟩ := inj2 hJ35
            subst e0
            subst e1
            exact kJ36 _ _ _ hB (lv_sub hl [0, 1, 2, 3, 4, 5, 6, 7, 8, 9, 10, 11, 12] rfl)
        refine lv_icmp_ge (tgt := 499) hx hb dL_law_491 (by decide) (fun c32 => ?_) (fun c32 => ?_)
        · replace hJ30 := ite_t c32 hJ30
          refine lv_ldc (v := (-2000000097 : Int32)) hx hb hown hq1 dL_law_499 ?_
          have e0 := inj1 hJ30
          subst e0
          exact kJ31 _ _ _ hB (lv_sub hl [0, 1, 2, 3, 4, 5, 6, 7, 8, 9, 10, 11] rfl)
        · replace hJ30 := ite_f c32 hJ30
          refine lv_ldc (v := (-2000000098 : Int32)) hx hb hown hq2 dL_law_494 ?_
          refine lv_goto (tgt := 501) hx hb dL_law_496 (by decide) ?_
          have e0 := inj1 hJ30
          subst e0
          exact kJ31 _ _ _ hB (lv_sub hl [0, 1, 2, 3, 4, 5, 6, 7, 8, 9, 10, 11] rfl)
      replace hJ23 := ob1_s hJ23
      obtain ⟨t25, hD26, hJ23⟩ := hJ23
      have kTt25 : t25 = true → ∀ (H : Heap) (locs : List Loc), Bd (dC, dI) [(cyI, .int), (cyB, .byte), (cyO, .object "UndoJourneys$World"), (cyA, .array .int), (cyT, .object "UndoJourneysLaw$Trip"), (cyW, .object "UndoJourneysLaw$World"), (cyZ, .boolean)] (va_A [] s.heap.size) s (wF [cU cyI cyB cyO ua ub up aw as' pa β υ ω sid τs n, [(bu, .inl (cyI, 8, .inl b))], cN rn sd12, cX cyI cyA cyT wa ks ts kr ta sa ra K mT Ns ζ κ Φ Ψ, [(nb, .inl (cyW, 9, .inr (.inr (.inr (.inr (fun j => (pb j).map pwa))))))], cXs cyI cyA cyT pwa pks pts pkr pta psa pra K mT Ns pζ pκ pΦ pΨ pc0]) H locs → W p l e room_1 s m #[Value.ref sb] below meth c H locs (c00 + 0) (s00 + 0) (lw_Z below #[Value.ref sb] s) (F0 m 476 ls []) := by
        intro ht H locs hB
        have hJ23 := cnd_t ht hJ23
        refine lv_iconst (v := (1 : Int32)) hx hb dL_law_476 (by decide) ?_
        refine lv_goto (tgt := 481) hx hb dL_law_477 (by decide) ?_
        have e0 := inj1 hJ23
        subst e0
        exact kJ24 (Or.inr rfl) _ _ _ hB (lv_sub hl [1, 2, 3, 4, 5, 6, 7, 8, 9, 10, 11] rfl)
      have kFt25 : t25 = false → ∀ (H : Heap) (locs : List Loc), Bd (dC, dI) [(cyI, .int), (cyB, .byte), (cyO, .object "UndoJourneys$World"), (cyA, .array .int), (cyT, .object "UndoJourneysLaw$Trip"), (cyW, .object "UndoJourneysLaw$World"), (cyZ, .boolean)] (va_A [] s.heap.size) s (wF [cU cyI cyB cyO ua ub up aw as' pa β υ ω sid τs n, [(bu, .inl (cyI, 8, .inl b))], cN rn sd12, cX cyI cyA cyT wa ks ts kr ta sa ra K mT Ns ζ κ Φ Ψ, [(nb, .inl (cyW, 9, .inr (.inr (.inr (.inr (fun j => (pb j).map pwa))))))], cXs cyI cyA cyT pwa pks pts pkr pta psa pra K mT Ns pζ pκ pΦ pΨ pc0]) H locs → W p l e room_1 s m #[Value.ref sb] below meth c H locs (c00 + 0) (s00 + 0) (lw_Z below #[Value.ref sb] s) (F0 m 480 ls []) := by
        intro ht H locs hB
        have hJ23 := cnd_f ht hJ23
        refine lv_iconst (v := (0 : Int32)) hx hb dL_law_480 (by decide) ?_
        have e0 := inj1 hJ23
        subst e0
        exact kJ24 (Or.inl rfl) _ _ _ hB (lv_sub hl [1, 2, 3, 4, 5, 6, 7, 8, 9, 10, 11] rfl)
      refine lv_icmp_ge (tgt := 480) hx hb dL_law_468 (by decide) (fun c27 => ?_) (fun c27 => ?_)
      · replace hD26 := ite_t c27 hD26
        have e0 := inj1 hD26
        exact kFt25 e0.symm _ _ hB
      · replace hD26 := ite_f c27 hD26
        refine lv_iload hx hb dL_law_471 (lv_at hl 0 rfl) ?_
        refine lv_if_eq (tgt := 480) hx hb dL_law_473 (by decide) (fun c28 => ?_) (fun c28 => ?_)
        · replace hD26 := ite_t c28 hD26
          have e0 := inj1 hD26
          exact kFt25 e0.symm _ _ hB
        · replace hD26 := ite_f c28 hD26
          have e0 := inj1 hD26
          exact kTt25 e0.symm _ _ hB
    replace hJ15 := ob1_s hJ15
    obtain ⟨t17, hD18, hJ15⟩ := hJ15
    have kTt17 : t17 = true → ∀ (H : Heap) (locs : List Loc), Bd (dC, dI) [(cyI, .int), (cyB, .byte), (cyO, .object "UndoJourneys$World"), (cyA, .array .int), (cyT, .object "UndoJourneysLaw$Trip"), (cyW, .object "UndoJourneysLaw$World"), (cyZ, .boolean)] (va_A [] s.heap.size) s (wF [cU cyI cyB cyO ua ub up aw as' pa β υ ω sid τs n, [(bu, .inl (cyI, 8, .inl b))], cN rn sd12, cX cyI cyA cyT wa ks ts kr ta sa ra K mT Ns ζ κ Φ Ψ, [(nb, .inl (cyW, 9, .inr (.inr (.inr (.inr (fun j => (pb j).map pwa))))))], cXs cyI cyA cyT pwa pks pts pkr pta psa pra K mT Ns pζ pκ pΦ pΨ pc0]) H locs → W p l e room_1 s m #[Value.ref sb] below meth c H locs (c00 + 0) (s00 + 0) (lw_Z below #[Value.ref sb] s) (F0 m 453 ls []) := by
      intro ht H locs hB
      have hJ15 := cnd_t ht hJ15
      refine lv_iconst (v := (1 : Int32)) hx hb dL_law_453 (by decide) ?_
      refine lv_goto (tgt := 458) hx hb dL_law_454 (by decide) ?_
      have e0 := inj1 hJ15
      subst e0
      exact kJ16 (Or.inr rfl) _ _ _ hB (lv_sub hl [0, 1, 2, 3, 4, 5, 6, 7, 8, 9, 10] rfl)
    have kFt17 : t17 = false → ∀ (H : Heap) (locs : List Loc), Bd (dC, dI) [(cyI, .int), (cyB, .byte), (cyO, .object "UndoJourneys$World"), (cyA, .array .int), (cyT, .object "UndoJourneysLaw$Trip"), (cyW, .object "UndoJourneysLaw$World"), (cyZ, .boolean)] (va_A [] s.heap.size) s (wF [cU cyI cyB cyO ua ub up aw as' pa β υ ω sid τs n, [(bu, .inl (cyI, 8, .inl b))], cN rn sd12, cX cyI cyA cyT wa ks ts kr ta sa ra K mT Ns ζ κ Φ Ψ, [(nb, .inl (cyW, 9, .inr (.inr (.inr (.inr (fun j => (pb j).map pwa))))))], cXs cyI cyA cyT pwa pks pts pkr pta psa pra K mT Ns pζ pκ pΦ pΨ pc0]) H locs → W p l e room_1 s m #[Value.ref sb] below meth c H locs (c00 + 0) (s00 + 0) (lw_Z below #[Value.ref sb] s) (F0 m 457 ls []) := by
      intro ht H locs hB
      have hJ15 := cnd_f ht hJ15
      refine lv_iconst (v := (0 : Int32)) hx hb dL_law_457 (by decide) ?_
      have e0 := inj1 hJ15
      subst e0
      exact kJ16 (Or.inl rfl) _ _ _ hB (lv_sub hl [0, 1, 2, 3, 4, 5, 6, 7, 8, 9, 10] rfl)
    refine lv_if_le (tgt := 457) hx hb dL_law_442 (by decide) (fun c19 => ?_) (fun c19 => ?_)
    · replace hD18 := ite_t c19 hD18
      have e0 := inj1 hD18
      exact kFt17 e0.symm _ _ hB
    · replace hD18 := ite_f c19 hD18
      refine lv_iload hx hb dL_law_445 (lv_at hl 0 rfl) ?_
      refine lv_sipush (v := (1000 : Int32)) hx hb dL_law_447 (by decide) ?_
      refine lv_icmp_ge (tgt := 457) hx hb dL_law_450 (by decide) (fun c20 => ?_) (fun c20 => ?_)
      · replace hD18 := ite_t c20 hD18
        have e0 := inj1 hD18
        exact kFt17 e0.symm _ _ hB
      · replace hD18 := ite_f c20 hD18
        have e0 := inj1 hD18
        exact kTt17 e0.symm _ _ hB
  refine lv_if_ne (tgt := 433) hx hb dL_law_424 (by decide) (fun c8 => ?_) (fun c8 => ?_)
  · replace hJ6 := ite_f c8 hJ6
    refine lv_bipush (v := (10 : Int32)) hx hb dL_law_433 (by decide) ?_
    have e0 := inj1 hJ6
    subst e0
    exact kJ7 _ _ _ hB (lv_sub hl [0, 1, 2, 3, 4, 5, 6, 7, 8, 9] rfl)
  · replace hJ6 := ite_t c8 hJ6
    refine lv_sipush (v := (1100 : Int32)) hx hb dL_law_427 (by decide) ?_
    refine lv_goto (tgt := 435) hx hb dL_law_430 (by decide) ?_
    have e0 := inj1 hJ6
    subst e0
    exact kJ7 _ _ _ hB (lv_sub hl [0, 1, 2, 3, 4, 5, 6, 7, 8, 9] rfl)
