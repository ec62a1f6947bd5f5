/-! the law from 843 to 954 -/
set_option maxHeartbeats 16000000 in
set_option maxRecDepth 100000 in
theorem kR843 {p : Program} {l : Launch} {e : Env} {s : State} {m : MethodId} {below : List Frame} {meth : Method} {c : Code} {sb L : Nat} {xs : Nat → Int32} {dC : Nat → ClassId} {dI : Nat → Nat → Nat} {cyI cyB cyO cyA cyT cyW cyZ : ClassId} {kS : Nat → Nat} (hx : p.tables.exec = Jvm.exec) (hb : c.code = cL_law) (hml : c.maxLocals = 25) (hown : s.vm.findClass RL = some m.cls) (hts : ∀ w ∈ lw_tbl, w.before #[Value.ref sb] s = true) (hX : va_X sb L xs s s.heap) (hbl : sb < s.heap.size) (hbA : ¬ va_A [] s.heap.size sb) (hl0 : l.stackTraces = false) (hK : va_K (dC, dI) vwCl [(cyI, .int), (cyB, .byte), (cyO, .object "UndoJourneys$World"), (cyA, .array .int), (cyT, .object "UndoJourneysLaw$Trip"), (cyW, .object "UndoJourneysLaw$World"), (cyZ, .boolean)] s) (hEV : EV kS (va_A [] s.heap.size) s s.heap) (hr : meth.sig.returnType = ret) (hlocks : meth.locks = false) {ua ub up bu rn nb wa ks ts : Nat} {aw : Nat → Nat → Nat} {kr ta sa : PA} {ra : Nat → PA} {K mT : Nat} {Ns : PA} (hKn : K < 7) (hmT : mT < 9) (hNs : ∀ k, k < mT → Ns k < 10) {as' : Nat → Nat → Nat} {pwa : PA} {pks : PA} {pts : PA} {pkr : Nat → PA} {pta : Nat → PA} {psa : Nat → PA} {pra : Nat → Nat → PA} {pv : Nat} {fu : Nat} {l9 : Int32} {l8 : Int32} {l2 : Int32} {τs : WS} {n : Nat} {pa : PA} {β : FS} {υ : MS} {ω : WS} {sid : PA} {b : FS} {sd : MS} {ζ : MS} {κ : MS} {Φ : WS} {Ψ : WS} {pb : (Nat → Option Nat)} {pζ : WS} {pκ : WS} {pΦ : (Nat → WS)} {pΨ : (Nat → WS)} {pc0 : Nat} {o1 : Int32} {o11 : Int32} {pa_ : PA} {υ_ : MS} {ω_ : WS} {sid_ : PA} {sd_ : MS} {ζ_ : MS} {κ_ : MS} {Φ_ : WS} {Ψ_ : WS} (hf : mL_law_R843 fu K mT Ns l9 l8 l2 τs n pa β υ ω sid b sd ζ κ Φ Ψ pb pζ pκ pΦ pΨ pc0 = some (o1, o11, pa_, υ_, ω_, sid_, sd_, ζ_, κ_, Φ_, Ψ_)) {H : Heap} {locs : List Loc} {ls : Array Slot} {c00 s00 : Nat} (hc0 : c00 + 27 ≤ 500000) (hs0 : s00 + 214 ≤ 6000000) (hB : Bd (dC, dI) [(cyI, .int), (cyB, .byte), (cyO, .object "UndoJourneys$World"), (cyA, .array .int), (cyT, .object "UndoJourneysLaw$Trip"), (cyW, .object "UndoJourneysLaw$World"), (cyZ, .boolean)] (va_A [] s.heap.size) s (wF [cU cyI cyB cyO ua ub up aw as' pa β υ ω sid τs n, [(bu, .inl (cyI, 8, .inl b))], cN rn sd, cX cyI cyA cyT wa ks ts kr ta sa ra K mT Ns ζ κ Φ Ψ, [(nb, .inl (cyW, 9, .inr (.inr (.inr (.inr (fun j => (pb j).map pwa))))))], cXs cyI cyA cyT pwa pks pts pkr pta psa pra K mT Ns pζ pκ pΦ pΨ pc0]) H locs) (hl : lv_has ls 25 [(10, .ref pv), (9, .int l9), (8, .int l8), (7, .ref nb), (6, .ref wa), (5, .ref rn), (3, .ref ua), (2, .int l2), (0, .ref sb)]) (nxt : ∀ (H : Heap) (locs : List Loc) (ls : Array Slot), Bd (dC, dI) [(cyI, .int), (cyB, .byte), (cyO, .object "UndoJourneys$World"), (cyA, .array .int), (cyT, .object "UndoJourneysLaw$Trip"), (cyW, .object "UndoJourneysLaw$World"), (cyZ, .boolean)] (va_A [] s.heap.size) s (wF [cU cyI cyB cyO ua ub up aw as' pa_ β υ_ ω_ sid_ τs n, [(bu, .inl (cyI, 8, .inl b))], cN rn sd_, cX cyI cyA cyT wa ks ts kr ta sa ra K mT Ns ζ_ κ_ Φ_ Ψ_, [(nb, .inl (cyW, 9, .inr (.inr (.inr (.inr (fun j => (pb j).map pwa))))))], cXs cyI cyA cyT pwa pks pts pkr pta psa pra K mT Ns pζ pκ pΦ pΨ pc0]) H locs → lv_has ls 25 [(11, .int o11), (10, .ref pv), (9, .int l9), (8, .int l8), (7, .ref nb), (6, .ref wa), (5, .ref rn), (3, .ref ua), (2, .int l2), (1, .int o1), (0, .ref sb)] → W p l e room_1 s m #[Value.ref sb] below meth c H locs (c00 + 27) (s00 + 214) (lw_Z below #[Value.ref sb] s) (F0 m 954 ls [])) : W p l e room_1 s m #[Value.ref sb] below meth c H locs c00 s00 (lw_Z below #[Value.ref sb] s) (F0 m 843 ls []) := by
  obtain ⟨hEX, hNC, hJ, hNw, hNw3, hAOw, hN6, hN5, hAOT, hAOW, hAOA, hCl⟩ := id hEV
  have hA : ∀ q : Nat, s.heap.size ≤ q → va_A [] s.heap.size q := fun q h => Or.inr h
  have hgb : ∀ w ∈ gw_tbl, w ∈ lw_tbl := gw_in
  have hq0 : (Cond.constant RL 42 (-2000000098)).before _ s = true := hts _ (tb3 175 rfl)
  show W p l e room_1 s m #[Value.ref sb] below meth c H locs (c00 + 0) (s00 + 0) (lw_Z below #[Value.ref sb] s) (F0 m 843 ls [])
  have hrc_pass : rmL_pass.cells = 1 := rfl
  have hrs_pass : rmL_pass.slots = 6 := rfl
  unfold mL_law_R843 at hf
  refine lv_aload hx hb dL_law_843 (lv_at hl 5 rfl) ?_
  refine lv_aload hx hb dL_law_845 (lv_at hl 5 rfl) ?_
  refine lv_iconst (v := (5 : Int32)) hx hb dL_law_847 (by decide) ?_
  replace hf := ob2_s hf
  obtain ⟨r1, sd2, hc, hf⟩ := hf
  refine e_Vi (S := Unit) (As := [.int (5 : Int32)]) (rest := [.ref rn]) (wc := cN rn sd) (wr := (wF [cU cyI cyB cyO ua ub up aw as' pa β υ ω sid τs n, [(bu, .inl (cyI, 8, .inl b))], cX cyI cyA cyT wa ks ts kr ta sa ra K mT Ns ζ κ Φ Ψ, [(nb, .inl (cyW, 9, .inr (.inr (.inr (.inr (fun j => (pb j).map pwa))))))], cXs cyI cyA cyT pwa pks pts pkr pta psa pra K mT Ns pζ pκ pΦ pΨ pc0])) (w1 := fun _ => cN rn sd2) ⟨hx, hb, hml, hown, hts⟩ (kX4_below l dC dI rn H.size hc) (cwV 1 hts (gv_X4_below_107 hgb) rfl rfl rfl (by decide +kernel) ⟨(Nat.le_of_ble_eq_true rfl), (Nat.le_of_ble_eq_true rfl)⟩) (pcut_pre (hB.perm (wperm (L' := [cN rn sd, cU cyI cyB cyO ua ub up aw as' pa β υ ω sid τs n, [(bu, .inl (cyI, 8, .inl b))], cX cyI cyA cyT wa ks ts kr ta sa ra K mT Ns ζ κ Φ Ψ, [(nb, .inl (cyW, 9, .inr (.inr (.inr (.inr (fun j => (pb j).map pwa))))))], cXs cyI cyA cyT pwa pks pts pkr pta psa pra K mT Ns pζ pκ pΦ pΨ pc0]) [2, 0, 1, 3, 4, 5] (by decide +kernel) rfl rfl)) (hK.sub [] rfl) (.ref rn :: [.int (5 : Int32)])) hB hA (g_recv (ci := 4) hK (hB.perm (wperm (L' := [cN rn sd, cU cyI cyB cyO ua ub up aw as' pa β υ ω sid τs n, [(bu, .inl (cyI, 8, .inl b))], cX cyI cyA cyT wa ks ts kr ta sa ra K mT Ns ζ κ Φ Ψ, [(nb, .inl (cyW, 9, .inr (.inr (.inr (.inr (fun j => (pb j).map pwa))))))], cXs cyI cyA cyT pwa pks pts pkr pta psa pra K mT Ns pζ pκ pΦ pΨ pc0]) [2, 0, 1, 3, 4, 5] (by decide +kernel) rfl rfl)) 0 rfl rfl rfl) (wperm (L' := [cN rn sd, cU cyI cyB cyO ua ub up aw as' pa β υ ω sid τs n, [(bu, .inl (cyI, 8, .inl b))], cX cyI cyA cyT wa ks ts kr ta sa ra K mT Ns ζ κ Φ Ψ, [(nb, .inl (cyW, 9, .inr (.inr (.inr (.inr (fun j => (pb j).map pwa))))))], cXs cyI cyA cyT pwa pks pts pkr pta psa pra K mT Ns pζ pκ pΦ pΨ pc0]) [2, 0, 1, 3, 4, 5] (by decide +kernel) rfl rfl) rfl hl.1 rfl (Nat.le_of_ble_eq_true rfl) dL_law_848 ⟨Nat.le_trans (m := 500000) (by show _ ≤ 500000; omega) rm_c, Nat.le_trans (m := 6000000) (by show _ ≤ 6000000; omega) rm_s⟩ ?_
  clear hB locs H
  intro r9 _ H locs hr9 hB
  rw [hr9]
  replace hB := hB.perm wF_un1
  replace hB := hB.perm (wperm (L' := [cU cyI cyB cyO ua ub up aw as' pa β υ ω sid τs n, [(bu, .inl (cyI, 8, .inl b))], cN rn sd2, cX cyI cyA cyT wa ks ts kr ta sa ra K mT Ns ζ κ Φ Ψ, [(nb, .inl (cyW, 9, .inr (.inr (.inr (.inr (fun j => (pb j).map pwa))))))], cXs cyI cyA cyT pwa pks pts pkr pta psa pra K mT Ns pζ pκ pΦ pΨ pc0]) [1, 2, 0, 3, 4, 5] (by decide +kernel) rfl rfl)
  replace hf := ob1_s hf
  obtain ⟨v3, hJ4, hf⟩ := hf
  have kJ5 : ∀ (H : Heap) (locs : List Loc) (ls : Array Slot), Bd (dC, dI) [(cyI, .int), (cyB, .byte), (cyO, .object "UndoJourneys$World"), (cyA, .array .int), (cyT, .object "UndoJourneysLaw$Trip"), (cyW, .object "UndoJourneysLaw$World"), (cyZ, .boolean)] (va_A [] s.heap.size) s (wF [cU cyI cyB cyO ua ub up aw as' pa β υ ω sid τs n, [(bu, .inl (cyI, 8, .inl b))], cN rn sd2, cX cyI cyA cyT wa ks ts kr ta sa ra K mT Ns ζ κ Φ Ψ, [(nb, .inl (cyW, 9, .inr (.inr (.inr (.inr (fun j => (pb j).map pwa))))))], cXs cyI cyA cyT pwa pks pts pkr pta psa pra K mT Ns pζ pκ pΦ pΨ pc0]) H locs → lv_has ls 25 [(10, .ref pv), (9, .int l9), (8, .int l8), (7, .ref nb), (6, .ref wa), (5, .ref rn), (3, .ref ua), (2, .int l2), (0, .ref sb)] → W p l e room_1 s m #[Value.ref sb] below meth c H locs (c00 + 0) (s00 + 0) (lw_Z below #[Value.ref sb] s) (F0 m 860 ls [.int v3, .ref rn]) := by
    clear hB hl ls locs H
    intro H locs ls hB hl
    replace hf := ob2_s hf
    obtain ⟨r7, sd8, hc, hf⟩ := hf
    refine e_Vi (S := Unit) (As := [.int v3]) (rest := []) (wc := cN rn sd2) (wr := (wF [cU cyI cyB cyO ua ub up aw as' pa β υ ω sid τs n, [(bu, .inl (cyI, 8, .inl b))], cX cyI cyA cyT wa ks ts kr ta sa ra K mT Ns ζ κ Φ Ψ, [(nb, .inl (cyW, 9, .inr (.inr (.inr (.inr (fun j => (pb j).map pwa))))))], cXs cyI cyA cyT pwa pks pts pkr pta psa pra K mT Ns pζ pκ pΦ pΨ pc0])) (w1 := fun _ => cN rn sd8) ⟨hx, hb, hml, hown, hts⟩ (kX4_below l dC dI rn H.size hc) (cwV 1 hts (gv_X4_below_107 hgb) rfl rfl rfl (by decide +kernel) ⟨(Nat.le_of_ble_eq_true rfl), (Nat.le_of_ble_eq_true rfl)⟩) (pcut_pre (hB.perm (wperm (L' := [cN rn sd2, cU cyI cyB cyO ua ub up aw as' pa β υ ω sid τs n, [(bu, .inl (cyI, 8, .inl b))], cX cyI cyA cyT wa ks ts kr ta sa ra K mT Ns ζ κ Φ Ψ, [(nb, .inl (cyW, 9, .inr (.inr (.inr (.inr (fun j => (pb j).map pwa))))))], cXs cyI cyA cyT pwa pks pts pkr pta psa pra K mT Ns pζ pκ pΦ pΨ pc0]) [2, 0, 1, 3, 4, 5] (by decide +kernel) rfl rfl)) (hK.sub [] rfl) (.ref rn :: [.int v3])) hB hA (g_recv (ci := 4) hK (hB.perm (wperm (L' := [cN rn sd2, cU cyI cyB cyO ua ub up aw as' pa β υ ω sid τs n, [(bu, .inl (cyI, 8, .inl b))], cX cyI cyA cyT wa ks ts kr ta sa ra K mT Ns ζ κ Φ Ψ, [(nb, .inl (cyW, 9, .inr (.inr (.inr (.inr (fun j => (pb j).map pwa))))))], cXs cyI cyA cyT pwa pks pts pkr pta psa pra K mT Ns pζ pκ pΦ pΨ pc0]) [2, 0, 1, 3, 4, 5] (by decide +kernel) rfl rfl)) 0 rfl rfl rfl) (wperm (L' := [cN rn sd2, cU cyI cyB cyO ua ub up aw as' pa β υ ω sid τs n, [(bu, .inl (cyI, 8, .inl b))], cX cyI cyA cyT wa ks ts kr ta sa ra K mT Ns ζ κ Φ Ψ, [(nb, .inl (cyW, 9, .inr (.inr (.inr (.inr (fun j => (pb j).map pwa))))))], cXs cyI cyA cyT pwa pks pts pkr pta psa pra K mT Ns pζ pκ pΦ pΨ pc0]) [2, 0, 1, 3, 4, 5] (by decide +kernel) rfl rfl) rfl hl.1 rfl (Nat.le_of_ble_eq_true rfl) dL_law_860 ⟨Nat.le_trans (m := 500000) (by show _ ≤ 500000; omega) rm_c, Nat.le_trans (m := 6000000) (by show _ ≤ 6000000; omega) rm_s⟩ ?_
    clear hB locs H
    intro r9 _ H locs hr9 hB
    rw [hr9]
    replace hB := hB.perm wF_un1
    replace hB := hB.perm (wperm (L' := [cU cyI cyB cyO ua ub up aw as' pa β υ ω sid τs n, [(bu, .inl (cyI, 8, .inl b))], cN rn sd8, cX cyI cyA cyT wa ks ts kr ta sa ra K mT Ns ζ κ Φ Ψ, [(nb, .inl (cyW, 9, .inr (.inr (.inr (.inr (fun j => (pb j).map pwa))))))], cXs cyI cyA cyT pwa pks pts pkr pta psa pra K mT Ns pζ pκ pΦ pΨ pc0]) [1, 2, 0, 3, 4, 5] (by decide +kernel) rfl rfl)
    refine lv_istore (lv' := [(20, .int r7), (10, .ref pv), (9, .int l9), (8, .int l8), (7, .ref nb), (6, .ref wa), (5, .ref rn), (3, .ref ua), (2, .int l2), (0, .ref sb)]) hx hb dL_law_863 hl (by decide) rfl ?_
    clear hl ls
    intro ls hl
    refine lv_iload hx hb dL_law_865 (lv_at hl 0 rfl) ?_
    replace hf := ob1_s hf
    obtain ⟨v11, hJ13, hf⟩ := hf
    have kJ14 : (v11 = 0 ∨ v11 = 1) → ∀ (H : Heap) (locs : List Loc) (ls : Array Slot), Bd (dC, dI) [(cyI, .int), (cyB, .byte), (cyO, .object "UndoJourneys$World"), (cyA, .array .int), (cyT, .object "UndoJourneysLaw$Trip"), (cyW, .object "UndoJourneysLaw$World"), (cyZ, .boolean)] (va_A [] s.heap.size) s (wF [cU cyI cyB cyO ua ub up aw as' pa β υ ω sid τs n, [(bu, .inl (cyI, 8, .inl b))], cN rn sd8, cX cyI cyA cyT wa ks ts kr ta sa ra K mT Ns ζ κ Φ Ψ, [(nb, .inl (cyW, 9, .inr (.inr (.inr (.inr (fun j => (pb j).map pwa))))))], cXs cyI cyA cyT pwa pks pts pkr pta psa pra K mT Ns pζ pκ pΦ pΨ pc0]) H locs → lv_has ls 25 [(20, .int r7), (10, .ref pv), (9, .int l9), (8, .int l8), (7, .ref nb), (6, .ref wa), (5, .ref rn), (3, .ref ua), (2, .int l2), (0, .ref sb)] → W p l e room_1 s m #[Value.ref sb] below meth c H locs (c00 + 0) (s00 + 0) (lw_Z below #[Value.ref sb] s) (F0 m 875 ls [.int v11]) := by
      clear hB hl ls locs H
      intro z12 H locs ls hB hl
      refine lv_istore (lv' := [(11, .int v11), (20, .int r7), (10, .ref pv), (9, .int l9), (8, .int l8), (7, .ref nb), (6, .ref wa), (5, .ref rn), (3, .ref ua), (2, .int l2), (0, .ref sb)]) hx hb dL_law_875 hl (by decide) rfl ?_
      clear hl ls
      intro ls hl
      refine lv_aload hx hb dL_law_877 (lv_at hl 6 rfl) ?_
      refine lv_iconst (v := (3 : Int32)) hx hb dL_law_879 (by decide) ?_
      replace hf := ob1_s hf
      obtain ⟨r16, hc, hf⟩ := hf
      refine e_Vi (S := Unit) (As := [.int (3 : Int32)]) (rest := []) (wc := cX cyI cyA cyT wa ks ts kr ta sa ra K mT Ns ζ κ Φ Ψ) (wr := (wF [cU cyI cyB cyO ua ub up aw as' pa β υ ω sid τs n, [(bu, .inl (cyI, 8, .inl b))], cN rn sd8, [(nb, .inl (cyW, 9, .inr (.inr (.inr (.inr (fun j => (pb j).map pwa))))))], cXs cyI cyA cyT pwa pks pts pkr pta psa pra K mT Ns pζ pκ pΦ pΨ pc0])) (w1 := fun _ => cX cyI cyA cyT wa ks ts kr ta sa ra K mT Ns ζ κ Φ Ψ) ⟨hx, hb, hml, hown, hts⟩ (kX6_count l dC dI cyI cyA cyT wa ks ts kr ta sa ra H.size hc) (cwV 1 hts (gv_X6_count_253 hgb) rfl rfl rfl (by decide +kernel) ⟨(Nat.le_of_ble_eq_true rfl), (Nat.le_of_ble_eq_true rfl)⟩) (pcut_pre (hB.perm (wperm (L' := [cX cyI cyA cyT wa ks ts kr ta sa ra K mT Ns ζ κ Φ Ψ, cU cyI cyB cyO ua ub up aw as' pa β υ ω sid τs n, [(bu, .inl (cyI, 8, .inl b))], cN rn sd8, [(nb, .inl (cyW, 9, .inr (.inr (.inr (.inr (fun j => (pb j).map pwa))))))], cXs cyI cyA cyT pwa pks pts pkr pta psa pra K mT Ns pζ pκ pΦ pΨ pc0]) [3, 0, 1, 2, 4, 5] (by decide +kernel) rfl rfl)) (hK.sub [0, 3, 4] rfl) (.ref wa :: [.int (3 : Int32)])) hB hA (g_recv (ci := 6) hK (hB.perm (wperm (L' := [cX cyI cyA cyT wa ks ts kr ta sa ra K mT Ns ζ κ Φ Ψ, cU cyI cyB cyO ua ub up aw as' pa β υ ω sid τs n, [(bu, .inl (cyI, 8, .inl b))], cN rn sd8, [(nb, .inl (cyW, 9, .inr (.inr (.inr (.inr (fun j => (pb j).map pwa))))))], cXs cyI cyA cyT pwa pks pts pkr pta psa pra K mT Ns pζ pκ pΦ pΨ pc0]) [3, 0, 1, 2, 4, 5] (by decide +kernel) rfl rfl)) 0 rfl rfl rfl) (wperm (L' := [cX cyI cyA cyT wa ks ts kr ta sa ra K mT Ns ζ κ Φ Ψ, cU cyI cyB cyO ua ub up aw as' pa β υ ω sid τs n, [(bu, .inl (cyI, 8, .inl b))], cN rn sd8, [(nb, .inl (cyW, 9, .inr (.inr (.inr (.inr (fun j => (pb j).map pwa))))))], cXs cyI cyA cyT pwa pks pts pkr pta psa pra K mT Ns pζ pκ pΦ pΨ pc0]) [3, 0, 1, 2, 4, 5] (by decide +kernel) rfl rfl) rfl hl.1 rfl (Nat.le_of_ble_eq_true rfl) dL_law_880 ⟨Nat.le_trans (m := 500000) (by show _ ≤ 500000; omega) rm_c, Nat.le_trans (m := 6000000) (by show _ ≤ 6000000; omega) rm_s⟩ ?_
      clear hB locs H
      intro r9 _ H locs hr9 hB
      rw [hr9]
      replace hB := hB.perm wF_un1
      replace hB := hB.perm (wperm (L' := [cU cyI cyB cyO ua ub up aw as' pa β υ ω sid τs n, [(bu, .inl (cyI, 8, .inl b))], cN rn sd8, cX cyI cyA cyT wa ks ts kr ta sa ra K mT Ns ζ κ Φ Ψ, [(nb, .inl (cyW, 9, .inr (.inr (.inr (.inr (fun j => (pb j).map pwa))))))], cXs cyI cyA cyT pwa pks pts pkr pta psa pra K mT Ns pζ pκ pΦ pΨ pc0]) [1, 2, 3, 0, 4, 5] (by decide +kernel) rfl rfl)
      refine lv_aload hx hb dL_law_883 (lv_at hl 6 rfl) ?_
      refine lv_iconst (v := (4 : Int32)) hx hb dL_law_885 (by decide) ?_
      replace hf := ob1_s hf
      obtain ⟨r17, hc, hf⟩ := hf
      refine e_Vi (S := Unit) (As := [.int (4 : Int32)]) (rest := [.int r16]) (wc := cX cyI cyA cyT wa ks ts kr ta sa ra K mT Ns ζ κ Φ Ψ) (wr := (wF [cU cyI cyB cyO ua ub up aw as' pa β υ ω sid τs n, [(bu, .inl (cyI, 8, .inl b))], cN rn sd8, [(nb, .inl (cyW, 9, .inr (.inr (.inr (.inr (fun j => (pb j).map pwa))))))], cXs cyI cyA cyT pwa pks pts pkr pta psa pra K mT Ns pζ pκ pΦ pΨ pc0])) (w1 := fun _ => cX cyI cyA cyT wa ks ts kr ta sa ra K mT Ns ζ κ Φ Ψ) ⟨hx, hb, hml, hown, hts⟩ (kX6_count l dC dI cyI cyA cyT wa ks ts kr ta sa ra H.size hc) (cwV 1 hts (gv_X6_count_253 hgb) rfl rfl rfl (by decide +kernel) ⟨(Nat.le_of_ble_eq_true rfl), (Nat.le_of_ble_eq_true rfl)⟩) (pcut_pre (hB.perm (wperm (L' := [cX cyI cyA cyT wa ks ts kr ta sa ra K mT Ns ζ κ Φ Ψ, cU cyI cyB cyO ua ub up aw as' pa β υ ω sid τs n, [(bu, .inl (cyI, 8, .inl b))], cN rn sd8, [(nb, .inl (cyW, 9, .inr (.inr (.inr (.inr (fun j => (pb j).map pwa))))))], cXs cyI cyA cyT pwa pks pts pkr pta psa pra K mT Ns pζ pκ pΦ pΨ pc0]) [3, 0, 1, 2, 4, 5] (by decide +kernel) rfl rfl)) (hK.sub [0, 3, 4] rfl) (.ref wa :: [.int (4 : Int32)])) hB hA (g_recv (ci := 6) hK (hB.perm (wperm (L' := [cX cyI cyA cyT wa ks ts kr ta sa ra K mT Ns ζ κ Φ Ψ, cU cyI cyB cyO ua ub up aw as' pa β υ ω sid τs n, [(bu, .inl (cyI, 8, .inl b))], cN rn sd8, [(nb, .inl (cyW, 9, .inr (.inr (.inr (.inr (fun j => (pb j).map pwa))))))], cXs cyI cyA cyT pwa pks pts pkr pta psa pra K mT Ns pζ pκ pΦ pΨ pc0]) [3, 0, 1, 2, 4, 5] (by decide +kernel) rfl rfl)) 0 rfl rfl rfl) (wperm (L' := [cX cyI cyA cyT wa ks ts kr ta sa ra K mT Ns ζ κ Φ Ψ, cU cyI cyB cyO ua ub up aw as' pa β υ ω sid τs n, [(bu, .inl (cyI, 8, .inl b))], cN rn sd8, [(nb, .inl (cyW, 9, .inr (.inr (.inr (.inr (fun j => (pb j).map pwa))))))], cXs cyI cyA cyT pwa pks pts pkr pta psa pra K mT Ns pζ pκ pΦ pΨ pc0]) [3, 0, 1, 2, 4, 5] (by decide +kernel) rfl rfl) rfl hl.1 rfl (Nat.le_of_ble_eq_true rfl) dL_law_886 ⟨Nat.le_trans (m := 500000) (by show _ ≤ 500000; omega) rm_c, Nat.le_trans (m := 6000000) (by show _ ≤ 6000000; omega) rm_s⟩ ?_
      clear hB locs H
      intro r9 _ H locs hr9 hB
      rw [hr9]
      replace hB := hB.perm wF_un1
      replace hB := hB.perm (wperm (L' := [cU cyI cyB cyO ua ub up aw as' pa β υ ω sid τs n, [(bu, .inl (cyI, 8, .inl b))], cN rn sd8, cX cyI cyA cyT wa ks ts kr ta sa ra K mT Ns ζ κ Φ Ψ, [(nb, .inl (cyW, 9, .inr (.inr (.inr (.inr (fun j => (pb j).map pwa))))))], cXs cyI cyA cyT pwa pks pts pkr pta psa pra K mT Ns pζ pκ pΦ pΨ pc0]) [1, 2, 3, 0, 4, 5] (by decide +kernel) rfl rfl)
      refine lv_iadd hx hb dL_law_889 ?_
      refine lv_istore (lv' := [(21, .int (r16 + r17)), (11, .int v11), (20, .int r7), (10, .ref pv), (9, .int l9), (8, .int l8), (7, .ref nb), (6, .ref wa), (5, .ref rn), (3, .ref ua), (2, .int l2), (0, .ref sb)]) hx hb dL_law_890 hl (by decide) rfl ?_
      clear hl ls
      intro ls hl
      refine lv_iconst (v := (0 : Int32)) hx hb dL_law_892 (by decide) ?_
      refine lv_istore (lv' := [(22, .int (0 : Int32)), (21, .int (r16 + r17)), (11, .int v11), (20, .int r7), (10, .ref pv), (9, .int l9), (8, .int l8), (7, .ref nb), (6, .ref wa), (5, .ref rn), (3, .ref ua), (2, .int l2), (0, .ref sb)]) hx hb dL_law_893 hl (by decide) rfl ?_
      clear hl ls
      intro ls hl
      replace hf := ob4_s hf
      obtain ⟨ζ49, κ50, Φ51, Ψ52, hL55, hf⟩ := hf
      have kE53 : ∀  (H : Heap) (locs : List Loc) (ls : Array Slot), Bd (dC, dI) [(cyI, .int), (cyB, .byte), (cyO, .object "UndoJourneys$World"), (cyA, .array .int), (cyT, .object "UndoJourneysLaw$Trip"), (cyW, .object "UndoJourneysLaw$World"), (cyZ, .boolean)] (va_A [] s.heap.size) s (wF [cU cyI cyB cyO ua ub up aw as' pa β υ ω sid τs n, [(bu, .inl (cyI, 8, .inl b))], cN rn sd8, cX cyI cyA cyT wa ks ts kr ta sa ra K mT Ns ζ49 κ50 Φ51 Ψ52, [(nb, .inl (cyW, 9, .inr (.inr (.inr (.inr (fun j => (pb j).map pwa))))))], cXs cyI cyA cyT pwa pks pts pkr pta psa pra K mT Ns pζ pκ pΦ pΨ pc0]) H locs → lv_has ls 25 [(21, .int (r16 + r17)), (11, .int v11), (20, .int r7), (10, .ref pv), (9, .int l9), (8, .int l8), (7, .ref nb), (6, .ref wa), (5, .ref rn), (3, .ref ua), (2, .int l2), (0, .ref sb)] → W p l e room_1 s m #[Value.ref sb] below meth c H locs (c00 + 26) (s00 + 208) (lw_Z below #[Value.ref sb] s) (F0 m 913 ls []) := by
        clear hB hl ls locs H
        intro H locs ls hB hl
        refine lv_aload_n hx hb dL_law_913 rfl (lv_at hl 9 rfl) ?_
        refine lv_iload hx hb dL_law_914 (lv_at hl 2 rfl) ?_
        replace hf := ob1_s hf
        obtain ⟨o57, hc, hf⟩ := hf
        obtain ⟨hc, hE9⟩ := hEl_s hc
        replace hf := ob1_s hf
        obtain ⟨r58, er9, hf⟩ := hf
        replace er9 := inj1 er9
        replace hf := ob1_s hf
        obtain ⟨pa59, epa59, hf⟩ := hf
        replace epa59 := inj1 epa59
        replace hf := ob1_s hf
        obtain ⟨υ60, eυ60, hf⟩ := hf
        replace eυ60 := inj1 eυ60
        replace hf := ob1_s hf
        obtain ⟨ω61, eω61, hf⟩ := hf
        replace eω61 := inj1 eω61
        replace hf := ob1_s hf
        obtain ⟨sid62, esid62, hf⟩ := hf
        replace esid62 := inj1 esid62
        refine e_Wi (S := Unit) (As := [.ref ua, .int r7]) (rest := []) (wc := cU cyI cyB cyO ua ub up aw as' pa β υ ω sid τs n) (wr := (wF [[(bu, .inl (cyI, 8, .inl b))], cN rn sd8, cX cyI cyA cyT wa ks ts kr ta sa ra K mT Ns ζ49 κ50 Φ51 Ψ52, [(nb, .inl (cyW, 9, .inr (.inr (.inr (.inr (fun j => (pb j).map pwa))))))], cXs cyI cyA cyT pwa pks pts pkr pta psa pra K mT Ns pζ pκ pΦ pΨ pc0])) (w1 := fun _ => xU (cU cyI cyB cyO ua ub up aw as' pa β υ ω sid τs n) (fun x => (cU cyI cyB cyO ua ub up aw as' (x.2.1) β (x.2.2.1) (x.2.2.2.1) (x.2.2.2.2) τs n)) o57) ⟨hx, hb, hml, hown, hts⟩ (kL_pass l hl0 dC dI cyI cyB cyO cyA cyT cyW cyZ ua ub up aw as' kS H.size hc hE9) (vx_cwSW 2 hts (gv_L_pass_213 hgb) rfl rfl rfl (by decide +kernel) ⟨(Nat.le_of_ble_eq_true rfl), (Nat.le_of_ble_eq_true rfl)⟩) (epre_left hEV (hB.perm (wperm (L' := [cU cyI cyB cyO ua ub up aw as' pa β υ ω sid τs n, [(bu, .inl (cyI, 8, .inl b))], cN rn sd8, cX cyI cyA cyT wa ks ts kr ta sa ra K mT Ns ζ49 κ50 Φ51 Ψ52, [(nb, .inl (cyW, 9, .inr (.inr (.inr (.inr (fun j => (pb j).map pwa))))))], cXs cyI cyA cyT pwa pks pts pkr pta psa pra K mT Ns pζ pκ pΦ pΨ pc0]) [0, 1, 2, 3, 4, 5] (by decide +kernel) rfl rfl)) hA hK [.ref ua, .int r7]) hB hA (wperm (L' := [cU cyI cyB cyO ua ub up aw as' pa β υ ω sid τs n, [(bu, .inl (cyI, 8, .inl b))], cN rn sd8, cX cyI cyA cyT wa ks ts kr ta sa ra K mT Ns ζ49 κ50 Φ51 Ψ52, [(nb, .inl (cyW, 9, .inr (.inr (.inr (.inr (fun j => (pb j).map pwa))))))], cXs cyI cyA cyT pwa pks pts pkr pta psa pra K mT Ns pζ pκ pΦ pΨ pc0]) [0, 1, 2, 3, 4, 5] (by decide +kernel) rfl rfl) rfl hl.1 rfl (Nat.le_of_ble_eq_true rfl) dL_law_916 ⟨Nat.le_trans (m := 500000) (by show _ ≤ 500000; omega) rm_c, Nat.le_trans (m := 6000000) (by show _ ≤ 6000000; omega) rm_s⟩ ?_
        clear hB locs H
        intro r9 _ H locs hr9 hB
        rw [hr9, er9]
        have e9 : xU (cU cyI cyB cyO ua ub up aw as' pa β υ ω sid τs n) (fun x => (cU cyI cyB cyO ua ub up aw as' (x.2.1) β (x.2.2.1) (x.2.2.2.1) (x.2.2.2.2) τs n)) o57 = cU cyI cyB cyO ua ub up aw as' pa59 β υ60 ω61 sid62 τs n := by rw [← epa59, ← eυ60, ← eω61, ← esid62]; cases o57 <;> rfl
        replace hB := (congrArg (fun z : va_W => Bd (dC, dI) [(cyI, .int), (cyB, .byte), (cyO, .object "UndoJourneys$World"), (cyA, .array .int), (cyT, .object "UndoJourneysLaw$Trip"), (cyW, .object "UndoJourneysLaw$World"), (cyZ, .boolean)] (va_A [] s.heap.size) s (z ++ (wF [[(bu, .inl (cyI, 8, .inl b))], cN rn sd8, cX cyI cyA cyT wa ks ts kr ta sa ra K mT Ns ζ49 κ50 Φ51 Ψ52, [(nb, .inl (cyW, 9, .inr (.inr (.inr (.inr (fun j => (pb j).map pwa))))))], cXs cyI cyA cyT pwa pks pts pkr pta psa pra K mT Ns pζ pκ pΦ pΨ pc0])) H locs) e9).mp hB
        replace hB := hB.perm wF_un1
        replace hB := hB.perm (wperm (L' := [cU cyI cyB cyO ua ub up aw as' pa59 β υ60 ω61 sid62 τs n, [(bu, .inl (cyI, 8, .inl b))], cN rn sd8, cX cyI cyA cyT wa ks ts kr ta sa ra K mT Ns ζ49 κ50 Φ51 Ψ52, [(nb, .inl (cyW, 9, .inr (.inr (.inr (.inr (fun j => (pb j).map pwa))))))], cXs cyI cyA cyT pwa pks pts pkr pta psa pra K mT Ns pζ pκ pΦ pΨ pc0]) [0, 1, 2, 3, 4, 5] (by decide +kernel) rfl rfl)
        refine lv_iload hx hb dL_law_919 (lv_at hl 1 rfl) ?_
        replace hf := ob1_s hf
        obtain ⟨v63, hJ64, hf⟩ := hf
        have kJ65 : ∀ (H : Heap) (locs : List Loc) (ls : Array Slot), Bd (dC, dI) [(cyI, .int), (cyB, .byte), (cyO, .object "UndoJourneys$World"), (cyA, .array .int), (cyT, .object "UndoJourneysLaw$Trip"), (cyW, .object "UndoJourneysLaw$World"), (cyZ, .boolean)] (va_A [] s.heap.size) s (wF [cU cyI cyB cyO ua ub up aw as' pa59 β υ60 ω61 sid62 τs n, [(bu, .inl (cyI, 8, .inl b))], cN rn sd8, cX cyI cyA cyT wa ks ts kr ta sa ra K mT Ns ζ49 κ50 Φ51 Ψ52, [(nb, .inl (cyW, 9, .inr (.inr (.inr (.inr (fun j => (pb j).map pwa))))))], cXs cyI cyA cyT pwa pks pts pkr pta psa pra K mT Ns pζ pκ pΦ pΨ pc0]) H locs → lv_has ls 25 [(11, .int v11), (10, .ref pv), (9, .int l9), (8, .int l8), (7, .ref nb), (6, .ref wa), (5, .ref rn), (3, .ref ua), (2, .int l2), (0, .ref sb)] → W p l e room_1 s m #[Value.ref sb] below meth c H locs (c00 + 27) (s00 + 214) (lw_Z below #[Value.ref sb] s) (F0 m 945 ls [.int v63, .int r58]) := by
          clear hB hl ls locs H
          intro H locs ls hB hl
          replace hf := ob1_s hf
          obtain ⟨v69, hJ71, hf⟩ := hf
          have kJ72 : (v69 = 0 ∨ v69 = 1) → ∀ (H : Heap) (locs : List Loc) (ls : Array Slot), Bd (dC, dI) [(cyI, .int), (cyB, .byte), (cyO, .object "UndoJourneys$World"), (cyA, .array .int), (cyT, .object "UndoJourneysLaw$Trip"), (cyW, .object "UndoJourneysLaw$World"), (cyZ, .boolean)] (va_A [] s.heap.size) s (wF [cU cyI cyB cyO ua ub up aw as' pa59 β υ60 ω61 sid62 τs n, [(bu, .inl (cyI, 8, .inl b))], cN rn sd8, cX cyI cyA cyT wa ks ts kr ta sa ra K mT Ns ζ49 κ50 Φ51 Ψ52, [(nb, .inl (cyW, 9, .inr (.inr (.inr (.inr (fun j => (pb j).map pwa))))))], cXs cyI cyA cyT pwa pks pts pkr pta psa pra K mT Ns pζ pκ pΦ pΨ pc0]) H locs → lv_has ls 25 [(11, .int v11), (10, .ref pv), (9, .int l9), (8, .int l8), (7, .ref nb), (6, .ref wa), (5, .ref rn), (3, .ref ua), (2, .int l2), (0, .ref sb)] → W p l e room_1 s m #[Value.ref sb] below meth c H locs (c00 + 27) (s00 + 214) (lw_Z below #[Value.ref sb] s) (F0 m 953 ls [.int v69]) := by
            clear hB hl ls locs H
            intro z70 H locs ls hB hl
            refine lv_istore_n (lv' := [(1, .int v69), (11, .int v11), (10, .ref pv), (9, .int l9), (8, .int l8), (7, .ref nb), (6, .ref wa), (5, .ref rn), (3, .ref ua), (2, .int l2), (0, .ref sb)]) hx hb dL_law_953 rfl hl (by decide) rfl ?_
            clear hl ls
            intro ls hl
            obtain ⟨e0, e1, e2, e3, e4, e5, e6, e7, e8, e9, e10⟩ := inj11 hf
            subst e0
            subst e1
            subst e2
            subst e3
            subst e4
            subst e5
            subst e6
            subst e7
            subst e8
            subst e9
            subst e10
            exact nxt _ _ _ hB (lv_sub hl [1, 2, 3, 4, 5, 6, 7, 8, 9, 0, 10] rfl)
          refine lv_icmp_ne (tgt := 952) hx hb dL_law_945 (by decide) (fun c73 => ?_) (fun c73 => ?_)
          · replace hJ71 := ite_f c73 hJ71
            refine lv_iconst (v := (0 : Int32)) hx hb dL_law_952 (by decide) ?_
            have e0 := inj1 hJ71
            subst e0
            exact kJ72 (Or.inl rfl) _ _ _ hB (lv_sub hl [0, 1, 2, 3, 4, 5, 6, 7, 8, 9] rfl)
          · replace hJ71 := ite_t c73 hJ71
            refine lv_iconst (v := (1 : Int32)) hx hb dL_law_948 (by decide) ?_
            refine lv_goto (tgt := 953) hx hb dL_law_949 (by decide) ?_
            have e0 := inj1 hJ71
            subst e0
            exact kJ72 (Or.inr rfl) _ _ _ hB (lv_sub hl [0, 1, 2, 3, 4, 5, 6, 7, 8, 9] rfl)
        refine lv_if_eq (tgt := 943) hx hb dL_law_921 (by decide) (fun c66 => ?_) (fun c66 => ?_)
        · replace hJ64 := ite_t c66 hJ64
          refine lv_ldc (v := (-2000000098 : Int32)) hx hb hown hq0 dL_law_943 ?_
          have e0 := inj1 hJ64
          subst e0
          exact kJ65 _ _ _ hB (lv_sub hl [1, 3, 4, 5, 6, 7, 8, 9, 10, 11] rfl)
        · replace hJ64 := ite_f c66 hJ64
          refine lv_aload hx hb dL_law_924 (lv_at hl 7 rfl) ?_
          refine lv_iconst (v := (3 : Int32)) hx hb dL_law_926 (by decide) ?_
          replace hJ64 := ob1_s hJ64
          obtain ⟨r67, hc, hJ64⟩ := hJ64
          refine e_Vi (S := Unit) (As := [.int (3 : Int32)]) (rest := [.int r58]) (wc := cX cyI cyA cyT wa ks ts kr ta sa ra K mT Ns ζ49 κ50 Φ51 Ψ52) (wr := (wF [cU cyI cyB cyO ua ub up aw as' pa59 β υ60 ω61 sid62 τs n, [(bu, .inl (cyI, 8, .inl b))], cN rn sd8, [(nb, .inl (cyW, 9, .inr (.inr (.inr (.inr (fun j => (pb j).map pwa))))))], cXs cyI cyA cyT pwa pks pts pkr pta psa pra K mT Ns pζ pκ pΦ pΨ pc0])) (w1 := fun _ => cX cyI cyA cyT wa ks ts kr ta sa ra K mT Ns ζ49 κ50 Φ51 Ψ52) ⟨hx, hb, hml, hown, hts⟩ (kX6_count l dC dI cyI cyA cyT wa ks ts kr ta sa ra H.size hc) (cwV 1 hts (gv_X6_count_253 hgb) rfl rfl rfl (by decide +kernel) ⟨(Nat.le_of_ble_eq_true rfl), (Nat.le_of_ble_eq_true rfl)⟩) (pcut_pre (hB.perm (wperm (L' := [cX cyI cyA cyT wa ks ts kr ta sa ra K mT Ns ζ49 κ50 Φ51 Ψ52, cU cyI cyB cyO ua ub up aw as' pa59 β υ60 ω61 sid62 τs n, [(bu, .inl (cyI, 8, .inl b))], cN rn sd8, [(nb, .inl (cyW, 9, .inr (.inr (.inr (.inr (fun j => (pb j).map pwa))))))], cXs cyI cyA cyT pwa pks pts pkr pta psa pra K mT Ns pζ pκ pΦ pΨ pc0]) [3, 0, 1, 2, 4, 5] (by decide +kernel) rfl rfl)) (hK.sub [0, 3, 4] rfl) (.ref wa :: [.int (3 : Int32)])) hB hA (g_recv (ci := 6) hK (hB.perm (wperm (L' := [cX cyI cyA cyT wa ks ts kr ta sa ra K mT Ns ζ49 κ50 Φ51 Ψ52, cU cyI cyB cyO ua ub up aw as' pa59 β υ60 ω61 sid62 τs n, [(bu, .inl (cyI, 8, .inl b))], cN rn sd8, [(nb, .inl (cyW, 9, .inr (.inr (.inr (.inr (fun j => (pb j).map pwa))))))], cXs cyI cyA cyT pwa pks pts pkr pta psa pra K mT Ns pζ pκ pΦ pΨ pc0]) [3, 0, 1, 2, 4, 5] (by decide +kernel) rfl rfl)) 0 rfl rfl rfl) (wperm (L' := [cX cyI cyA cyT wa ks ts kr ta sa ra K mT Ns ζ49 κ50 Φ51 Ψ52, cU cyI cyB cyO ua ub up aw as' pa59 β υ60 ω61 sid62 τs n, [(bu, .inl (cyI, 8, .inl b))], cN rn sd8, [(nb, .inl (cyW, 9, .inr (.inr (.inr (.inr (fun j => (pb j).map pwa))))))], cXs cyI cyA cyT pwa pks pts pkr pta psa pra K mT Ns pζ pκ pΦ pΨ pc0]) [3, 0, 1, 2, 4, 5] (by decide +kernel) rfl rfl) rfl hl.1 rfl (Nat.le_of_ble_eq_true rfl) dL_law_927 ⟨Nat.le_trans (m := 500000) (by show _ ≤ 500000; omega) rm_c, Nat.le_trans (m := 6000000) (by show _ ≤ 6000000; omega) rm_s⟩ ?_
          clear hB locs H
          intro r9 _ H locs hr9 hB
          rw [hr9]
          replace hB := hB.perm wF_un1
          replace hB := hB.perm (wperm (L' := [cU cyI cyB cyO ua ub up aw as' pa59 β υ60 ω61 sid62 τs n, [(bu, .inl (cyI, 8, .inl b))], cN rn sd8, cX cyI cyA cyT wa ks ts kr ta sa ra K mT Ns ζ49 κ50 Φ51 Ψ52, [(nb, .inl (cyW, 9, .inr (.inr (.inr (.inr (fun j => (pb j).map pwa))))))], cXs cyI cyA cyT pwa pks pts pkr pta psa pra K mT Ns pζ pκ pΦ pΨ pc0]) [1, 2, 3, 0, 4, 5] (by decide +kernel) rfl rfl)
          refine lv_aload hx hb dL_law_930 (lv_at hl 7 rfl) ?_
          refine lv_iconst (v := (4 : Int32)) hx hb dL_law_932 (by decide) ?_
          replace hJ64 := ob1_s hJ64
          obtain ⟨r68, hc, hJ64⟩ := hJ64
          refine e_Vi (S := Unit) (As := [.int (4 : Int32)]) (rest := [.int r67, .int r58]) (wc := cX cyI cyA cyT wa ks ts kr ta sa ra K mT Ns ζ49 κ50 Φ51 Ψ52) (wr := (wF [cU cyI cyB cyO ua ub up aw as' pa59 β υ60 ω61 sid62 τs n, [(bu, .inl (cyI, 8, .inl b))], cN rn sd8, [(nb, .inl (cyW, 9, .inr (.inr (.inr (.inr (fun j => (pb j).map pwa))))))], cXs cyI cyA cyT pwa pks pts pkr pta psa pra K mT Ns pζ pκ pΦ pΨ pc0])) (w1 := fun _ => cX cyI cyA cyT wa ks ts kr ta sa ra K mT Ns ζ49 κ50 Φ51 Ψ52) ⟨hx, hb, hml, hown, hts⟩ (kX6_count l dC dI cyI cyA cyT wa ks ts kr ta sa ra H.size hc) (cwV 1 hts (gv_X6_count_253 hgb) rfl rfl rfl (by decide +kernel) ⟨(Nat.le_of_ble_eq_true rfl), (Nat.le_of_ble_eq_true rfl)⟩) (pcut_pre (hB.perm (wperm (L' := [cX cyI cyA cyT wa ks ts kr ta sa ra K mT Ns ζ49 κ50 Φ51 Ψ52, cU cyI cyB cyO ua ub up aw as' pa59 β υ60 ω61 sid62 τs n, [(bu, .inl (cyI, 8, .inl b))], cN rn sd8, [(nb, .inl (cyW, 9, .inr (.inr (.inr (.inr (fun j => (pb j).map pwa))))))], cXs cyI cyA cyT pwa pks pts pkr pta psa pra K mT Ns pζ pκ pΦ pΨ pc0]) [3, 0, 1, 2, 4, 5] (by decide +kernel) rfl rfl)) (hK.sub [0, 3, 4] rfl) (.ref wa :: [.int (4 : Int32)])) hB hA (g_recv (ci := 6) hK (hB.perm (wperm (L' := [cX cyI cyA cyT wa ks ts kr ta sa ra K mT Ns ζ49 κ50 Φ51 Ψ52, cU cyI cyB cyO ua ub up aw as' pa59 β υ60 ω61 sid62 τs n, [(bu, .inl (cyI, 8, .inl b))], cN rn sd8, [(nb, .inl (cyW, 9, .inr (.inr (.inr (.inr (fun j => (pb j).map pwa))))))], cXs cyI cyA cyT pwa pks pts pkr pta psa pra K mT Ns pζ pκ pΦ pΨ pc0]) [3, 0, 1, 2, 4, 5] (by decide +kernel) rfl rfl)) 0 rfl rfl rfl) (wperm (L' := [cX cyI cyA cyT wa ks ts kr ta sa ra K mT Ns ζ49 κ50 Φ51 Ψ52, cU cyI cyB cyO ua ub up aw as' pa59 β υ60 ω61 sid62 τs n, [(bu, .inl (cyI, 8, .inl b))], cN rn sd8, [(nb, .inl (cyW, 9, .inr (.inr (.inr (.inr (fun j => (pb j).map pwa))))))], cXs cyI cyA cyT pwa pks pts pkr pta psa pra K mT Ns pζ pκ pΦ pΨ pc0]) [3, 0, 1, 2, 4, 5] (by decide +kernel) rfl rfl) rfl hl.1 rfl (Nat.le_of_ble_eq_true rfl) dL_law_933 ⟨Nat.le_trans (m := 500000) (by show _ ≤ 500000; omega) rm_c, Nat.le_trans (m := 6000000) (by show _ ≤ 6000000; omega) rm_s⟩ ?_
          clear hB locs H
          intro r9 _ H locs hr9 hB
          rw [hr9]
          replace hB := hB.perm wF_un1
          replace hB := hB.perm (wperm (L' := [cU cyI cyB cyO ua ub up aw as' pa59 β υ60 ω61 sid62 τs n, [(bu, .inl (cyI, 8, .inl b))], cN rn sd8, cX cyI cyA cyT wa ks ts kr ta sa ra K mT Ns ζ49 κ50 Φ51 Ψ52, [(nb, .inl (cyW, 9, .inr (.inr (.inr (.inr (fun j => (pb j).map pwa))))))], cXs cyI cyA cyT pwa pks pts pkr pta psa pra K mT Ns pζ pκ pΦ pΨ pc0]) [1, 2, 3, 0, 4, 5] (by decide +kernel) rfl rfl)
          refine lv_iadd hx hb dL_law_936 ?_
          refine lv_iload hx hb dL_law_937 (lv_at hl 0 rfl) ?_
          refine lv_isub hx hb dL_law_939 ?_
          refine lv_goto (tgt := 945) hx hb dL_law_940 (by decide) ?_
          have e0 := inj1 hJ64
          subst e0
          exact kJ65 _ _ _ hB (lv_sub hl [1, 3, 4, 5, 6, 7, 8, 9, 10, 11] rfl)
      have key54 : ∀ (n9 : Nat) (v75 : Int32) (ζ76 : MS) (κ77 : MS) (Φ78 : WS) (Ψ79 : WS)  (H : Heap) (locs : List Loc) (ls : Array Slot), n9 ≤ 26 → loopM (fun st => mL_law_L895 fu K mT Ns (r16 + r17) v11 r7 l9 l8 l2 τs n pa β υ ω sid b sd8 pb pζ pκ pΦ pΨ pc0 st.1 st.2.1 st.2.2.1 st.2.2.2.1 st.2.2.2.2) n9 (v75, ζ76, κ77, Φ78, Ψ79) = some (ζ49, κ50, Φ51, Ψ52) → Bd (dC, dI) [(cyI, .int), (cyB, .byte), (cyO, .object "UndoJourneys$World"), (cyA, .array .int), (cyT, .object "UndoJourneysLaw$Trip"), (cyW, .object "UndoJourneysLaw$World"), (cyZ, .boolean)] (va_A [] s.heap.size) s (wF [cU cyI cyB cyO ua ub up aw as' pa β υ ω sid τs n, [(bu, .inl (cyI, 8, .inl b))], cN rn sd8, cX cyI cyA cyT wa ks ts kr ta sa ra K mT Ns ζ76 κ77 Φ78 Ψ79, [(nb, .inl (cyW, 9, .inr (.inr (.inr (.inr (fun j => (pb j).map pwa))))))], cXs cyI cyA cyT pwa pks pts pkr pta psa pra K mT Ns pζ pκ pΦ pΨ pc0]) H locs → lv_has ls 25 [(22, .int v75), (21, .int (r16 + r17)), (11, .int v11), (20, .int r7), (10, .ref pv), (9, .int l9), (8, .int l8), (7, .ref nb), (6, .ref wa), (5, .ref rn), (3, .ref ua), (2, .int l2), (0, .ref sb)] → W p l e room_1 s m #[Value.ref sb] below meth c H locs ((c00 + 0) + (26 - n9) * 1) ((s00 + 0) + (26 - n9) * 8) (lw_Z below #[Value.ref sb] s) (F0 m 895 ls []) := by
        clear hB hl ls locs H
        intro n9
        induction n9 with
        | zero => intro v75 ζ76 κ77 Φ78 Ψ79 H locs ls _ hL55; exact (loopM_z hL55).elim
        | succ n9 ih9 =>
          intro v75 ζ76 κ77 Φ78 Ψ79 H locs ls hn82 hL55 hB hl
          obtain ⟨cv80, hcv80⟩ : ∃ cv : Nat, cv + 0 = (c00 + 0) + (26 - (n9 + 1)) * 1 := ⟨_, Nat.add_zero _⟩
          obtain ⟨scv80, hscv80⟩ : ∃ cv : Nat, cv + 0 = (s00 + 0) + (26 - (n9 + 1)) * 8 := ⟨_, Nat.add_zero _⟩
          rw [← hcv80, ← hscv80]
          replace hL55 := loopM_s hL55
          obtain ⟨o81, hg56, hL55⟩ := hL55
          have hg56 : mL_law_L895 fu K mT Ns (r16 + r17) v11 r7 l9 l8 l2 τs n pa β υ ω sid b sd8 pb pζ pκ pΦ pΨ pc0 v75 ζ76 κ77 Φ78 Ψ79 = some o81 := hg56
          unfold mL_law_L895 at hg56
          refine lv_iload hx hb dL_law_895 (lv_at hl 0 rfl) ?_
          refine lv_iload hx hb dL_law_897 (lv_at hl 3 rfl) ?_
          refine lv_icmp_ge (tgt := 913) hx hb dL_law_899 (by decide) (fun c83 => ?_) (fun c83 => ?_)
          · replace hg56 := ite_t c83 hg56
            replace hL55 := el1_l (inj1 hg56) hL55
            refine W.widen (k := (c00 + 26)) (n := (s00 + 208)) (by omega) (by omega) ?_
            obtain ⟨e0, e1, e2, e3⟩ := inj4 hL55
            subst e0
            subst e1
            subst e2
            subst e3
            exact kE53 _ _ _ hB (lv_sub hl [1, 2, 3, 4, 5, 6, 7, 8, 9, 10, 11, 12] rfl)
          · replace hg56 := ite_f c83 hg56
            refine lv_aload hx hb dL_law_902 (lv_at hl 8 rfl) ?_
            replace hg56 := ob4_s hg56
            obtain ⟨ζ84, κ85, Φ86, Ψ87, hc, hg56⟩ := hg56
            refine e_Vv (S := Unit) (As := []) (rest := []) (wc := wF [cX cyI cyA cyT wa ks ts kr ta sa ra K mT Ns ζ76 κ77 Φ78 Ψ79]) (wr := (wF [cU cyI cyB cyO ua ub up aw as' pa β υ ω sid τs n, [(bu, .inl (cyI, 8, .inl b))], cN rn sd8, [(nb, .inl (cyW, 9, .inr (.inr (.inr (.inr (fun j => (pb j).map pwa))))))], cXs cyI cyA cyT pwa pks pts pkr pta psa pra K mT Ns pζ pκ pΦ pΨ pc0])) (w1 := fun _ => wF [cX cyI cyA cyT wa ks ts kr ta sa ra K mT Ns ζ84 κ85 Φ86 Ψ87]) ⟨hx, hb, hml, hown, hts⟩ (kX6_tick l hl0 dC dI cyI cyB cyO cyA cyT cyW cyZ kS wa ks ts kr ta sa ra H.size hc) (cwV 0 hts (gq_X6_tick_256 hgb) rfl rfl rfl (by decide +kernel) ⟨(Nat.le_of_ble_eq_true rfl), (Nat.le_of_ble_eq_true rfl)⟩) (epre_left hEV (hB.perm ((wperm (L' := [cX cyI cyA cyT wa ks ts kr ta sa ra K mT Ns ζ76 κ77 Φ78 Ψ79, cU cyI cyB cyO ua ub up aw as' pa β υ ω sid τs n, [(bu, .inl (cyI, 8, .inl b))], cN rn sd8, [(nb, .inl (cyW, 9, .inr (.inr (.inr (.inr (fun j => (pb j).map pwa))))))], cXs cyI cyA cyT pwa pks pts pkr pta psa pra K mT Ns pζ pκ pΦ pΨ pc0]) [3, 0, 1, 2, 4, 5] (by decide +kernel) rfl rfl).trans (wF_cut (a := [cX cyI cyA cyT wa ks ts kr ta sa ra K mT Ns ζ76 κ77 Φ78 Ψ79]) (b := [cU cyI cyB cyO ua ub up aw as' pa β υ ω sid τs n, [(bu, .inl (cyI, 8, .inl b))], cN rn sd8, [(nb, .inl (cyW, 9, .inr (.inr (.inr (.inr (fun j => (pb j).map pwa))))))], cXs cyI cyA cyT pwa pks pts pkr pta psa pra K mT Ns pζ pκ pΦ pΨ pc0])))) hA hK [.ref wa]) hB hA (g_recv (ci := 6) hK (hB.perm (wperm (L' := [cX cyI cyA cyT wa ks ts kr ta sa ra K mT Ns ζ76 κ77 Φ78 Ψ79, cU cyI cyB cyO ua ub up aw as' pa β υ ω sid τs n, [(bu, .inl (cyI, 8, .inl b))], cN rn sd8, [(nb, .inl (cyW, 9, .inr (.inr (.inr (.inr (fun j => (pb j).map pwa))))))], cXs cyI cyA cyT pwa pks pts pkr pta psa pra K mT Ns pζ pκ pΦ pΨ pc0]) [3, 0, 1, 2, 4, 5] (by decide +kernel) rfl rfl)) 0 rfl rfl rfl) ((wperm (L' := [cX cyI cyA cyT wa ks ts kr ta sa ra K mT Ns ζ76 κ77 Φ78 Ψ79, cU cyI cyB cyO ua ub up aw as' pa β υ ω sid τs n, [(bu, .inl (cyI, 8, .inl b))], cN rn sd8, [(nb, .inl (cyW, 9, .inr (.inr (.inr (.inr (fun j => (pb j).map pwa))))))], cXs cyI cyA cyT pwa pks pts pkr pta psa pra K mT Ns pζ pκ pΦ pΨ pc0]) [3, 0, 1, 2, 4, 5] (by decide +kernel) rfl rfl).trans (wF_cut (a := [cX cyI cyA cyT wa ks ts kr ta sa ra K mT Ns ζ76 κ77 Φ78 Ψ79]) (b := [cU cyI cyB cyO ua ub up aw as' pa β υ ω sid τs n, [(bu, .inl (cyI, 8, .inl b))], cN rn sd8, [(nb, .inl (cyW, 9, .inr (.inr (.inr (.inr (fun j => (pb j).map pwa))))))], cXs cyI cyA cyT pwa pks pts pkr pta psa pra K mT Ns pζ pκ pΦ pΨ pc0]))) rfl hl.1 rfl (Nat.le_of_ble_eq_true rfl) dL_law_904 ⟨Nat.le_trans (m := 500000) (by show _ ≤ 500000; omega) rm_c, Nat.le_trans (m := 6000000) (by show _ ≤ 6000000; omega) rm_s⟩ ?_
            clear hB locs H
            intro _ H locs _ hB
            replace hB := hB.perm wF_uncut
            replace hB := hB.perm (wperm (L' := [cU cyI cyB cyO ua ub up aw as' pa β υ ω sid τs n, [(bu, .inl (cyI, 8, .inl b))], cN rn sd8, cX cyI cyA cyT wa ks ts kr ta sa ra K mT Ns ζ84 κ85 Φ86 Ψ87, [(nb, .inl (cyW, 9, .inr (.inr (.inr (.inr (fun j => (pb j).map pwa))))))], cXs cyI cyA cyT pwa pks pts pkr pta psa pra K mT Ns pζ pκ pΦ pΨ pc0]) [1, 2, 3, 0, 4, 5] (by decide +kernel) rfl rfl)
            refine lv_iinc (v := (v75 + (1 : Int32))) (lv' := [(22, .int (v75 + (1 : Int32))), (21, .int (r16 + r17)), (11, .int v11), (20, .int r7), (10, .ref pv), (9, .int l9), (8, .int l8), (7, .ref nb), (6, .ref wa), (5, .ref rn), (3, .ref ua), (2, .int l2), (0, .ref sb)]) hx hb dL_law_907 hl (k := 0) rfl rfl (by decide) rfl ?_
            clear hl ls
            intro ls hl
            refine lv_goto (tgt := 895) hx hb dL_law_910 (by decide) ?_
            replace hL55 := el1_r (inj1 hg56) hL55
            refine W.widen (k := (c00 + 0) + (26 - n9) * 1) (n := (s00 + 0) + (26 - n9) * 8) (by omega) (by omega) ?_
            exact ih9 _ _ _ _ _ _ _ _ (by omega) hL55 hB (lv_sub hl [0, 1, 2, 3, 4, 5, 6, 7, 8, 9, 10, 11, 12] rfl)
      refine W.widen (k := (c00 + 0) + (26 - 26) * 1) (n := (s00 + 0) + (26 - 26) * 8) (by omega) (by omega) ?_
      exact key54 26 _ _ _ _ _ _ _ _ (Nat.le_refl _) hL55 hB (lv_sub hl [0, 1, 2, 3, 4, 5, 6, 7, 8, 9, 10, 11, 12] rfl)
    refine lv_if_le (tgt := 874) hx hb dL_law_867 (by decide) (fun c15 => ?_) (fun c15 => ?_)
    · replace hJ13 := ite_t c15 hJ13
      refine lv_iconst (v := (0 : Int32)) hx hb dL_law_874 (by decide) ?_
      have e0 := inj1 hJ13
      subst e0
      exact kJ14 (Or.inl rfl) _ _ _ hB (lv_sub hl [0, 1, 2, 3, 4, 5, 6, 7, 8, 9] rfl)
    · replace hJ13 := ite_f c15 hJ13
      refine lv_iconst (v := (1 : Int32)) hx hb dL_law_870 (by decide) ?_
      refine lv_goto (tgt := 875) hx hb dL_law_871 (by decide) ?_
      have e0 := inj1 hJ13
      subst e0
      exact kJ14 (Or.inr rfl) _ _ _ hB (lv_sub hl [0, 1, 2, 3, 4, 5, 6, 7, 8, 9] rfl)
  refine lv_if_ne (tgt := 859) hx hb dL_law_851 (by decide) (fun c6 => ?_) (fun c6 => ?_)
  · replace hJ4 := ite_f c6 hJ4
    refine lv_iconst (v := (5 : Int32)) hx hb dL_law_859 (by decide) ?_
    have e0 := inj1 hJ4
    subst e0
    exact kJ5 _ _ _ hB (lv_sub hl [0, 1, 2, 3, 4, 5, 6, 7, 8] rfl)
  · replace hJ4 := ite_t c6 hJ4
    refine lv_bipush (v := (25 : Int32)) hx hb dL_law_854 (by decide) ?_
    refine lv_goto (tgt := 860) hx hb dL_law_856 (by decide) ?_
    have e0 := inj1 hJ4
    subst e0
    exact kJ5 _ _ _ hB (lv_sub hl [0, 1, 2, 3, 4, 5, 6, 7, 8] rfl)
