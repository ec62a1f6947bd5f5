/-! the law from 188 to 1014 -/
set_option maxHeartbeats 16000000 in
set_option maxRecDepth 100000 in
theorem kR188 {p : Program} {l : Launch} {e : Env} {s : State} {m : MethodId} {below : List Frame} {meth : Method} {c : Code} {sb L : Nat} {xs : Nat → Int32} {dC : Nat → ClassId} {dI : Nat → Nat → Nat} {cyI cyB cyO cyA cyT cyW cyZ : ClassId} {kS : Nat → Nat} (hx : p.tables.exec = Jvm.exec) (hb : c.code = cL_law) (hml : c.maxLocals = 25) (hown : s.vm.findClass RL = some m.cls) (hts : ∀ w ∈ lw_tbl, w.before #[Value.ref sb] s = true) (hX : va_X sb L xs s s.heap) (hbl : sb < s.heap.size) (hbA : ¬ va_A [] s.heap.size sb) (hl0 : l.stackTraces = false) (hK : va_K (dC, dI) vwCl [(cyI, .int), (cyB, .byte), (cyO, .object "UndoJourneys$World"), (cyA, .array .int), (cyT, .object "UndoJourneysLaw$Trip"), (cyW, .object "UndoJourneysLaw$World"), (cyZ, .boolean)] s) (hEV : EV kS (va_A [] s.heap.size) s s.heap) (hr : meth.sig.returnType = ret) (hlocks : meth.locks = false) {ua ub up bu rn nb wa ks ts : Nat} {aw : Nat → Nat → Nat} {kr ta sa : PA} {ra : Nat → PA} {K mT : Nat} {Ns : PA} (hKn : K < 7) (hmT : mT < 9) (hNs : ∀ k, k < mT → Ns k < 10) {as' : Nat → Nat → Nat} {pwa : PA} {pks : PA} {pts : PA} {pkr : Nat → PA} {pta : Nat → PA} {psa : Nat → PA} {pra : Nat → Nat → PA} {fu : Nat} {l9 : Int32} {l8 : Int32} {l2 : Int32} {τs : WS} {n : Nat} {pa : PA} {β : FS} {υ : MS} {ω : WS} {sid : PA} {b : FS} {sd : MS} {ζ : MS} {κ : MS} {Φ : WS} {Ψ : WS} {pb : (Nat → Option Nat)} {pζ : WS} {pκ : WS} {pΦ : (Nat → WS)} {pΨ : (Nat → WS)} {pc0 : Nat} {o1 : Int32} {o8 : Int32} {pa_ : PA} {υ_ : MS} {ω_ : WS} {sid_ : PA} {sd_ : MS} {ζ_ : MS} {κ_ : MS} {Φ_ : WS} {Ψ_ : WS} {pb_ : (Nat → Option Nat)} {pζ_ : WS} {pκ_ : WS} {pΦ_ : (Nat → WS)} {pΨ_ : (Nat → WS)} {pc0_ : Nat} (hf : mL_law_R188 fu K mT Ns l9 l8 l2 τs n pa β υ ω sid b sd ζ κ Φ Ψ pb pζ pκ pΦ pΨ pc0 = some (o1, o8, pa_, υ_, ω_, sid_, sd_, ζ_, κ_, Φ_, Ψ_, pb_, pζ_, pκ_, pΦ_, pΨ_, pc0_)) {H : Heap} {locs : List Loc} {ls : Array Slot} {c00 s00 : Nat} (hc0 : c00 + 2152 ≤ 500000) (hs0 : s00 + 13174 ≤ 6000000) (hB : Bd (dC, dI) [(cyI, .int), (cyB, .byte), (cyO, .object "UndoJourneys$World"), (cyA, .array .int), (cyT, .object "UndoJourneysLaw$Trip"), (cyW, .object "UndoJourneysLaw$World"), (cyZ, .boolean)] (va_A [] s.heap.size) s (wF [cU cyI cyB cyO ua ub up aw as' pa β υ ω sid τs n, [(bu, .inl (cyI, 8, .inl b))], cN rn sd, cX cyI cyA cyT wa ks ts kr ta sa ra K mT Ns ζ κ Φ Ψ, [(nb, .inl (cyW, 9, .inr (.inr (.inr (.inr (fun j => (pb j).map pwa))))))], cXs cyI cyA cyT pwa pks pts pkr pta psa pra K mT Ns pζ pκ pΦ pΨ pc0]) H locs) (hl : lv_has ls 25 [(9, .int l9), (8, .int l8), (7, .ref nb), (6, .ref wa), (5, .ref rn), (3, .ref ua), (2, .int l2), (0, .ref sb)]) (nxt : ∀ (pwa_ : PA) (pks_ : PA) (pts_ : PA) (pkr_ : Nat → PA) (pta_ : Nat → PA) (psa_ : Nat → PA) (pra_ : Nat → Nat → PA) (H : Heap) (locs : List Loc) (ls : Array Slot), Bd (dC, dI) [(cyI, .int), (cyB, .byte), (cyO, .object "UndoJourneys$World"), (cyA, .array .int), (cyT, .object "UndoJourneysLaw$Trip"), (cyW, .object "UndoJourneysLaw$World"), (cyZ, .boolean)] (va_A [] s.heap.size) s (wF [cU cyI cyB cyO ua ub up aw as' pa_ β υ_ ω_ sid_ τs n, [(bu, .inl (cyI, 8, .inl b))], cN rn sd_, cX cyI cyA cyT wa ks ts kr ta sa ra K mT Ns ζ_ κ_ Φ_ Ψ_, [(nb, .inl (cyW, 9, .inr (.inr (.inr (.inr (fun j => (pb_ j).map pwa_))))))], cXs cyI cyA cyT pwa_ pks_ pts_ pkr_ pta_ psa_ pra_ K mT Ns pζ_ pκ_ pΦ_ pΨ_ pc0_]) H locs → lv_has ls 25 [(9, .int l9), (8, .int o8), (7, .ref nb), (6, .ref wa), (5, .ref rn), (3, .ref ua), (2, .int l2), (1, .int o1), (0, .ref sb)] → W p l e room_1 s m #[Value.ref sb] below meth c H locs (c00 + 2152) (s00 + 13174) (lw_Z below #[Value.ref sb] s) (F0 m 1014 ls [])) : W p l e room_1 s m #[Value.ref sb] below meth c H locs c00 s00 (lw_Z below #[Value.ref sb] s) (F0 m 188 ls []) := by
  obtain ⟨hEX, hNC, hJ, hNw, hNw3, hAOw, hN6, hN5, hAOT, hAOW, hAOA, hCl⟩ := id hEV
  have hA : ∀ q : Nat, s.heap.size ≤ q → va_A [] s.heap.size q := fun q h => Or.inr h
  have hgb : ∀ w ∈ gw_tbl, w ∈ lw_tbl := gw_in
  have hq0 : (Cond.constant RL 52 (-2000000097)).before _ s = true := hts _ (tb3 225 rfl)
  have hq1 : (Cond.fieldLink RL 132 "UndoJourneysLaw$World" "trips" "[LUndoJourneysLaw$Trip;").before _ s = true := hts _ (tb2 28 rfl)
  have hq2 : (Cond.fieldLink RL 227 "UndoJourneysLaw$Trip" "state" "I").before _ s = true := hts _ (tb2 73 rfl)
  have hq3 : (Cond.constant RL 83 (-2000000099)).before _ s = true := hts _ (tb4 154 rfl)
  have hinX5 : ∀ w ∈ wsX50, w ∈ lw_tbl := t_wsX50
  have hinX6 : ∀ w ∈ wsX60, w ∈ lw_tbl := t_wsX60
  show W p l e room_1 s m #[Value.ref sb] below meth c H locs (c00 + 0) (s00 + 0) (lw_Z below #[Value.ref sb] s) (F0 m 188 ls [])
  have hrc_agrees : rmL_agrees.cells = 2000 := rfl
  have hrs_agrees : rmL_agrees.slots = 12000 := rfl
  unfold mL_law_R188 at hf
  refine lv_aload hx hb dL_law_188 (lv_at hl 3 rfl) ?_
  refine e_Vr (S := Nat × Nat × PA × PA × PA × (Nat → PA)) (As := []) (rest := []) (wc := wF [cX cyI cyA cyT wa ks ts kr ta sa ra K mT Ns ζ κ Φ Ψ]) (wr := (wF [cU cyI cyB cyO ua ub up aw as' pa β υ ω sid τs n, [(bu, .inl (cyI, 8, .inl b))], cN rn sd, [(nb, .inl (cyW, 9, .inr (.inr (.inr (.inr (fun j => (pb j).map pwa))))))], cXs cyI cyA cyT pwa pks pts pkr pta psa pra K mT Ns pζ pκ pΦ pΨ pc0])) (w1 := fun u a => wF [cX cyI cyA cyT wa ks ts kr ta sa ra K mT Ns ζ κ Φ Ψ, cX cyI cyA cyT a u.1 u.2.1 u.2.2.1 u.2.2.2.1 u.2.2.2.2.1 u.2.2.2.2.2 K mT Ns ζ κ Φ Ψ]) ⟨hx, hb, hml, hown, hts⟩ (kX6_copy l dC dI cyI cyB cyO cyA cyT cyW cyZ kS wa ks ts kr ta sa ra K mT Ns ζ κ Φ Ψ H.size hKn hmT hNs) (cwV 0 hts (gq_X6_copy_223 hgb) rfl rfl rfl (by decide +kernel) ⟨(Nat.le_of_ble_eq_true rfl), (Nat.le_of_ble_eq_true rfl)⟩) (epre_left hEV (hB.perm ((wperm (L' := [cX cyI cyA cyT wa ks ts kr ta sa ra K mT Ns ζ κ Φ Ψ, cU cyI cyB cyO ua ub up aw as' pa β υ ω sid τs n, [(bu, .inl (cyI, 8, .inl b))], cN rn sd, [(nb, .inl (cyW, 9, .inr (.inr (.inr (.inr (fun j => (pb j).map pwa))))))], cXs cyI cyA cyT pwa pks pts pkr pta psa pra K mT Ns pζ pκ pΦ pΨ pc0]) [3, 0, 1, 2, 4, 5] (by decide +kernel) rfl rfl).trans (wF_cut (a := [cX cyI cyA cyT wa ks ts kr ta sa ra K mT Ns ζ κ Φ Ψ]) (b := [cU cyI cyB cyO ua ub up aw as' pa β υ ω sid τs n, [(bu, .inl (cyI, 8, .inl b))], cN rn sd, [(nb, .inl (cyW, 9, .inr (.inr (.inr (.inr (fun j => (pb j).map pwa))))))], cXs cyI cyA cyT pwa pks pts pkr pta psa pra K mT Ns pζ pκ pΦ pΨ pc0])))) hA hK [.ref wa]) hB hA (g_recv (ci := 6) hK (hB.perm (wperm (L' := [cX cyI cyA cyT wa ks ts kr ta sa ra K mT Ns ζ κ Φ Ψ, cU cyI cyB cyO ua ub up aw as' pa β υ ω sid τs n, [(bu, .inl (cyI, 8, .inl b))], cN rn sd, [(nb, .inl (cyW, 9, .inr (.inr (.inr (.inr (fun j => (pb j).map pwa))))))], cXs cyI cyA cyT pwa pks pts pkr pta psa pra K mT Ns pζ pκ pΦ pΨ pc0]) [3, 0, 1, 2, 4, 5] (by decide +kernel) rfl rfl)) 0 rfl rfl rfl) ((wperm (L' := [cX cyI cyA cyT wa ks ts kr ta sa ra K mT Ns ζ κ Φ Ψ, cU cyI cyB cyO ua ub up aw as' pa β υ ω sid τs n, [(bu, .inl (cyI, 8, .inl b))], cN rn sd, [(nb, .inl (cyW, 9, .inr (.inr (.inr (.inr (fun j => (pb j).map pwa))))))], cXs cyI cyA cyT pwa pks pts pkr pta psa pra K mT Ns pζ pκ pΦ pΨ pc0]) [3, 0, 1, 2, 4, 5] (by decide +kernel) rfl rfl).trans (wF_cut (a := [cX cyI cyA cyT wa ks ts kr ta sa ra K mT Ns ζ κ Φ Ψ]) (b := [cU cyI cyB cyO ua ub up aw as' pa β υ ω sid τs n, [(bu, .inl (cyI, 8, .inl b))], cN rn sd, [(nb, .inl (cyW, 9, .inr (.inr (.inr (.inr (fun j => (pb j).map pwa))))))], cXs cyI cyA cyT pwa pks pts pkr pta psa pra K mT Ns pζ pκ pΦ pΨ pc0]))) rfl hl.1 rfl (Nat.le_of_ble_eq_true rfl) dL_law_190 ⟨Nat.le_trans (m := 500000) (by show _ ≤ 500000; omega) rm_c, Nat.le_trans (m := 6000000) (by show _ ≤ 6000000; omega) rm_s⟩ ?_
  clear hB locs H
  intro u pv H locs _ hB
  replace hf := ob1_s hf
  obtain ⟨pc01, epc01, hf⟩ := hf
  replace epc01 := inj1 epc01
  replace hf := ob1_s hf
  obtain ⟨pζ2, epζ2, hf⟩ := hf
  replace epζ2 := inj1 epζ2
  replace hf := ob1_s hf
  obtain ⟨pκ3, epκ3, hf⟩ := hf
  replace epκ3 := inj1 epκ3
  replace hf := ob1_s hf
  obtain ⟨pΦ4, epΦ4, hf⟩ := hf
  replace epΦ4 := inj1 epΦ4
  replace hf := ob1_s hf
  obtain ⟨pΨ5, epΨ5, hf⟩ := hf
  replace epΨ5 := inj1 epΨ5
  replace hB := hB.perm (wF_uncut (a := [cX cyI cyA cyT wa ks ts kr ta sa ra K mT Ns ζ κ Φ Ψ, cX cyI cyA cyT pv u.1 u.2.1 u.2.2.1 u.2.2.2.1 u.2.2.2.2.1 u.2.2.2.2.2 K mT Ns ζ κ Φ Ψ]) (b := [cU cyI cyB cyO ua ub up aw as' pa β υ ω sid τs n, [(bu, .inl (cyI, 8, .inl b))], cN rn sd, [(nb, .inl (cyW, 9, .inr (.inr (.inr (.inr (fun j => (pb j).map pwa))))))], cXs cyI cyA cyT pwa pks pts pkr pta psa pra K mT Ns pζ pκ pΦ pΨ pc0]))
  replace hB := hB.perm (wperm (L' := [cU cyI cyB cyO ua ub up aw as' pa β υ ω sid τs n, [(bu, .inl (cyI, 8, .inl b))], cN rn sd, cX cyI cyA cyT wa ks ts kr ta sa ra K mT Ns ζ κ Φ Ψ, [(nb, .inl (cyW, 9, .inr (.inr (.inr (.inr (fun j => (pb j).map pwa))))))], cXs cyI cyA cyT pwa pks pts pkr pta psa pra K mT Ns pζ pκ pΦ pΨ pc0, cX cyI cyA cyT pv u.1 u.2.1 u.2.2.1 u.2.2.2.1 u.2.2.2.2.1 u.2.2.2.2.2 K mT Ns ζ κ Φ Ψ]) [2, 3, 4, 0, 5, 6, 1] (by decide +kernel) rfl rfl)
  replace hf := ob1_s hf
  obtain ⟨_, g6, hf⟩ := hf
  replace hB := hB.perm (wperm (L' := [[(nb, .inl (cyW, 9, .inr (.inr (.inr (.inr (fun j => (pb j).map pwa))))))], cU cyI cyB cyO ua ub up aw as' pa β υ ω sid τs n, [(bu, .inl (cyI, 8, .inl b))], cN rn sd, cX cyI cyA cyT wa ks ts kr ta sa ra K mT Ns ζ κ Φ Ψ, cXs cyI cyA cyT pwa pks pts pkr pta psa pra K mT Ns pζ pκ pΦ pΨ pc0, cX cyI cyA cyT pv u.1 u.2.1 u.2.2.1 u.2.2.2.1 u.2.2.2.2.1 u.2.2.2.2.2 K mT Ns ζ κ Φ Ψ]) [4, 0, 1, 2, 3, 5, 6] (by decide +kernel) rfl rfl)
  replace hB := hB.refs 0 (g := fun j => (pb j).map (va_up pwa pc0 pv)) rfl (gOks_s g6 pwa pv)
  replace hB := hB.perm (wperm (L := [[(nb, .inl (cyW, 9, .inr (.inr (.inr (.inr (fun j => (pb j).map (va_up pwa pc0 pv)))))))], cU cyI cyB cyO ua ub up aw as' pa β υ ω sid τs n, [(bu, .inl (cyI, 8, .inl b))], cN rn sd, cX cyI cyA cyT wa ks ts kr ta sa ra K mT Ns ζ κ Φ Ψ, cXs cyI cyA cyT pwa pks pts pkr pta psa pra K mT Ns pζ pκ pΦ pΨ pc0, cX cyI cyA cyT pv u.1 u.2.1 u.2.2.1 u.2.2.2.1 u.2.2.2.2.1 u.2.2.2.2.2 K mT Ns ζ κ Φ Ψ]) (L' := [cU cyI cyB cyO ua ub up aw as' pa β υ ω sid τs n, [(bu, .inl (cyI, 8, .inl b))], cN rn sd, cX cyI cyA cyT wa ks ts kr ta sa ra K mT Ns ζ κ Φ Ψ, [(nb, .inl (cyW, 9, .inr (.inr (.inr (.inr (fun j => (pb j).map (va_up pwa pc0 pv)))))))], cXs cyI cyA cyT pwa pks pts pkr pta psa pra K mT Ns pζ pκ pΦ pΨ pc0, cX cyI cyA cyT pv u.1 u.2.1 u.2.2.1 u.2.2.2.1 u.2.2.2.2.1 u.2.2.2.2.2 K mT Ns ζ κ Φ Ψ]) [1, 2, 3, 4, 0, 5, 6] (by decide +kernel) rfl rfl)
  replace hB : Bd (dC, dI) [(cyI, .int), (cyB, .byte), (cyO, .object "UndoJourneys$World"), (cyA, .array .int), (cyT, .object "UndoJourneysLaw$Trip"), (cyW, .object "UndoJourneysLaw$World"), (cyZ, .boolean)] (va_A [] s.heap.size) s (wF [cU cyI cyB cyO ua ub up aw as' pa β υ ω sid τs n, [(bu, .inl (cyI, 8, .inl b))], cN rn sd, cX cyI cyA cyT wa ks ts kr ta sa ra K mT Ns ζ κ Φ Ψ, [(nb, .inl (cyW, 9, .inr (.inr (.inr (.inr (fun j => (pb j).map (va_up pwa pc0 pv)))))))], cXs cyI cyA cyT (va_up pwa pc0 pv) (va_up pks pc0 u.1) (va_up pts pc0 u.2.1) (va_up pkr pc0 u.2.2.1) (va_up pta pc0 u.2.2.2.1) (va_up psa pc0 u.2.2.2.2.1) (va_up pra pc0 u.2.2.2.2.2) K mT Ns pζ2 pκ3 pΦ4 pΨ5 pc01]) H locs := by
    rw [← epc01, ← epζ2, ← epκ3, ← epΦ4, ← epΨ5, ← cXs_push]; refine hB.perm (List.Perm.of_eq ?_); simp only [List.flatten_cons, List.flatten_nil, List.append_nil, List.append_assoc]
  refine lv_astore (lv' := [(10, .ref pv), (9, .int l9), (8, .int l8), (7, .ref nb), (6, .ref wa), (5, .ref rn), (3, .ref ua), (2, .int l2), (0, .ref sb)]) hx hb dL_law_193 hl (by decide) rfl ?_
  clear hl ls
  intro ls hl
  refine lv_iconst (v := (1 : Int32)) hx hb dL_law_195 (by decide) ?_
  refine lv_istore (lv' := [(11, .int (1 : Int32)), (10, .ref pv), (9, .int l9), (8, .int l8), (7, .ref nb), (6, .ref wa), (5, .ref rn), (3, .ref ua), (2, .int l2), (0, .ref sb)]) hx hb dL_law_196 hl (by decide) rfl ?_
  clear hl ls
  intro ls hl
  refine lv_ldc (v := (-2000000097 : Int32)) hx hb hown hq0 dL_law_198 ?_
  refine lv_istore (lv' := [(12, .int (-2000000097 : Int32)), (11, .int (1 : Int32)), (10, .ref pv), (9, .int l9), (8, .int l8), (7, .ref nb), (6, .ref wa), (5, .ref rn), (3, .ref ua), (2, .int l2), (0, .ref sb)]) hx hb dL_law_200 hl (by decide) rfl ?_
  clear hl ls
  intro ls hl
  refine lv_aload hx hb dL_law_202 (lv_at hl 6 rfl) ?_
  refine g_get (C := RX6) (T := TX6) (N := 6) hx hb hts hinX6 hown hK (hB.perm (wperm (L' := [cX cyI cyA cyT wa ks ts kr ta sa ra K mT Ns ζ κ Φ Ψ, cU cyI cyB cyO ua ub up aw as' pa β υ ω sid τs n, [(bu, .inl (cyI, 8, .inl b))], cN rn sd, [(nb, .inl (cyW, 9, .inr (.inr (.inr (.inr (fun j => (pb j).map (va_up pwa pc0 pv)))))))], cXs cyI cyA cyT (va_up pwa pc0 pv) (va_up pks pc0 u.1) (va_up pts pc0 u.2.1) (va_up pkr pc0 u.2.2.1) (va_up pta pc0 u.2.2.2.1) (va_up psa pc0 u.2.2.2.2.1) (va_up pra pc0 u.2.2.2.2.2) K mT Ns pζ2 pκ3 pΦ4 pΨ5 pc01]) [3, 0, 1, 2, 4, 5] (by decide +kernel) rfl rfl)) 0 rfl rfl 5 rfl hq1 rfl rfl dL_law_204 ?_
  refine g_alen hx hb hK (hB.perm (wperm (L' := [cX cyI cyA cyT wa ks ts kr ta sa ra K mT Ns ζ κ Φ Ψ, cU cyI cyB cyO ua ub up aw as' pa β υ ω sid τs n, [(bu, .inl (cyI, 8, .inl b))], cN rn sd, [(nb, .inl (cyW, 9, .inr (.inr (.inr (.inr (fun j => (pb j).map (va_up pwa pc0 pv)))))))], cXs cyI cyA cyT (va_up pwa pc0 pv) (va_up pks pc0 u.1) (va_up pts pc0 u.2.1) (va_up pkr pc0 u.2.2.1) (va_up pta pc0 u.2.2.2.1) (va_up psa pc0 u.2.2.2.2.1) (va_up pra pc0 u.2.2.2.2.2) K mT Ns pζ2 pκ3 pΦ4 pΨ5 pc01]) [3, 0, 1, 2, 4, 5] (by decide +kernel) rfl rfl)) 2 4 rfl rfl (v := (nI mT)) rfl dL_law_207 ?_
  refine lv_istore (lv' := [(13, .int (nI mT)), (12, .int (-2000000097 : Int32)), (11, .int (1 : Int32)), (10, .ref pv), (9, .int l9), (8, .int l8), (7, .ref nb), (6, .ref wa), (5, .ref rn), (3, .ref ua), (2, .int l2), (0, .ref sb)]) hx hb dL_law_208 hl (by decide) rfl ?_
  clear hl ls
  intro ls hl
  refine lv_aload hx hb dL_law_210 (lv_at hl 8 rfl) ?_
  refine lv_iload hx hb dL_law_212 (lv_at hl 0 rfl) ?_
  refine lv_aload hx hb dL_law_214 (lv_at hl 8 rfl) ?_
  refine lv_bipush (v := (12 : Int32)) hx hb dL_law_216 (by decide) ?_
  replace hf := ob2_s hf
  obtain ⟨r7, sd8, hc, hf⟩ := hf
  refine e_Vi (S := Unit) (As := [.int (12 : Int32)]) (rest := [.int (nI mT), .ref rn]) (wc := cN rn sd) (wr := (wF [cU cyI cyB cyO ua ub up aw as' pa β υ ω sid τs n, [(bu, .inl (cyI, 8, .inl b))], cX cyI cyA cyT wa ks ts kr ta sa ra K mT Ns ζ κ Φ Ψ, [(nb, .inl (cyW, 9, .inr (.inr (.inr (.inr (fun j => (pb j).map (va_up pwa pc0 pv)))))))], cXs cyI cyA cyT (va_up pwa pc0 pv) (va_up pks pc0 u.1) (va_up pts pc0 u.2.1) (va_up pkr pc0 u.2.2.1) (va_up pta pc0 u.2.2.2.1) (va_up psa pc0 u.2.2.2.2.1) (va_up pra pc0 u.2.2.2.2.2) K mT Ns pζ2 pκ3 pΦ4 pΨ5 pc01])) (w1 := fun _ => cN rn sd8) ⟨hx, hb, hml, hown, hts⟩ (kX4_below l dC dI rn H.size hc) (cwV 1 hts (gv_X4_below_107 hgb) rfl rfl rfl (by decide +kernel) ⟨(Nat.le_of_ble_eq_true rfl), (Nat.le_of_ble_eq_true rfl)⟩) (pcut_pre (hB.perm (wperm (L' := [cN rn sd, cU cyI cyB cyO ua ub up aw as' pa β υ ω sid τs n, [(bu, .inl (cyI, 8, .inl b))], cX cyI cyA cyT wa ks ts kr ta sa ra K mT Ns ζ κ Φ Ψ, [(nb, .inl (cyW, 9, .inr (.inr (.inr (.inr (fun j => (pb j).map (va_up pwa pc0 pv)))))))], cXs cyI cyA cyT (va_up pwa pc0 pv) (va_up pks pc0 u.1) (va_up pts pc0 u.2.1) (va_up pkr pc0 u.2.2.1) (va_up pta pc0 u.2.2.2.1) (va_up psa pc0 u.2.2.2.2.1) (va_up pra pc0 u.2.2.2.2.2) K mT Ns pζ2 pκ3 pΦ4 pΨ5 pc01]) [2, 0, 1, 3, 4, 5] (by decide +kernel) rfl rfl)) (hK.sub [] rfl) (.ref rn :: [.int (12 : Int32)])) hB hA (g_recv (ci := 4) hK (hB.perm (wperm (L' := [cN rn sd, cU cyI cyB cyO ua ub up aw as' pa β υ ω sid τs n, [(bu, .inl (cyI, 8, .inl b))], cX cyI cyA cyT wa ks ts kr ta sa ra K mT Ns ζ κ Φ Ψ, [(nb, .inl (cyW, 9, .inr (.inr (.inr (.inr (fun j => (pb j).map (va_up pwa pc0 pv)))))))], cXs cyI cyA cyT (va_up pwa pc0 pv) (va_up pks pc0 u.1) (va_up pts pc0 u.2.1) (va_up pkr pc0 u.2.2.1) (va_up pta pc0 u.2.2.2.1) (va_up psa pc0 u.2.2.2.2.1) (va_up pra pc0 u.2.2.2.2.2) K mT Ns pζ2 pκ3 pΦ4 pΨ5 pc01]) [2, 0, 1, 3, 4, 5] (by decide +kernel) rfl rfl)) 0 rfl rfl rfl) (wperm (L' := [cN rn sd, cU cyI cyB cyO ua ub up aw as' pa β υ ω sid τs n, [(bu, .inl (cyI, 8, .inl b))], cX cyI cyA cyT wa ks ts kr ta sa ra K mT Ns ζ κ Φ Ψ, [(nb, .inl (cyW, 9, .inr (.inr (.inr (.inr (fun j => (pb j).map (va_up pwa pc0 pv)))))))], cXs cyI cyA cyT (va_up pwa pc0 pv) (va_up pks pc0 u.1) (va_up pts pc0 u.2.1) (va_up pkr pc0 u.2.2.1) (va_up pta pc0 u.2.2.2.1) (va_up psa pc0 u.2.2.2.2.1) (va_up pra pc0 u.2.2.2.2.2) K mT Ns pζ2 pκ3 pΦ4 pΨ5 pc01]) [2, 0, 1, 3, 4, 5] (by decide +kernel) rfl rfl) rfl hl.1 rfl (Nat.le_of_ble_eq_true rfl) dL_law_218 ⟨Nat.le_trans (m := 500000) (by show _ ≤ 500000; omega) rm_c, Nat.le_trans (m := 6000000) (by show _ ≤ 6000000; omega) rm_s⟩ ?_
  clear hB locs H
  intro r9 _ H locs hr9 hB
  rw [hr9]
  replace hB := hB.perm wF_un1
  replace hB := hB.perm (wperm (L' := [cU cyI cyB cyO ua ub up aw as' pa β υ ω sid τs n, [(bu, .inl (cyI, 8, .inl b))], cN rn sd8, cX cyI cyA cyT wa ks ts kr ta sa ra K mT Ns ζ κ Φ Ψ, [(nb, .inl (cyW, 9, .inr (.inr (.inr (.inr (fun j => (pb j).map (va_up pwa pc0 pv)))))))], cXs cyI cyA cyT (va_up pwa pc0 pv) (va_up pks pc0 u.1) (va_up pts pc0 u.2.1) (va_up pkr pc0 u.2.2.1) (va_up pta pc0 u.2.2.2.1) (va_up psa pc0 u.2.2.2.2.1) (va_up pra pc0 u.2.2.2.2.2) K mT Ns pζ2 pκ3 pΦ4 pΨ5 pc01]) [1, 2, 0, 3, 4, 5] (by decide +kernel) rfl rfl)
  replace hf := ob1_s hf
  obtain ⟨v11, hJ13, hf⟩ := hf
  have kJ14 : (v11 = 0 ∨ v11 = 1) → ∀ (H : Heap) (locs : List Loc) (ls : Array Slot), Bd (dC, dI) [(cyI, .int), (cyB, .byte), (cyO, .object "UndoJourneys$World"), (cyA, .array .int), (cyT, .object "UndoJourneysLaw$Trip"), (cyW, .object "UndoJourneysLaw$World"), (cyZ, .boolean)] (va_A [] s.heap.size) s (wF [cU cyI cyB cyO ua ub up aw as' pa β υ ω sid τs n, [(bu, .inl (cyI, 8, .inl b))], cN rn sd8, cX cyI cyA cyT wa ks ts kr ta sa ra K mT Ns ζ κ Φ Ψ, [(nb, .inl (cyW, 9, .inr (.inr (.inr (.inr (fun j => (pb j).map (va_up pwa pc0 pv)))))))], cXs cyI cyA cyT (va_up pwa pc0 pv) (va_up pks pc0 u.1) (va_up pts pc0 u.2.1) (va_up pkr pc0 u.2.2.1) (va_up pta pc0 u.2.2.2.1) (va_up psa pc0 u.2.2.2.2.1) (va_up pra pc0 u.2.2.2.2.2) K mT Ns pζ2 pκ3 pΦ4 pΨ5 pc01]) H locs → lv_has ls 25 [(13, .int (nI mT)), (12, .int (-2000000097 : Int32)), (10, .ref pv), (9, .int l9), (8, .int l8), (7, .ref nb), (6, .ref wa), (5, .ref rn), (3, .ref ua), (2, .int l2), (0, .ref sb)] → W p l e room_1 s m #[Value.ref sb] below meth c H locs (c00 + 125) (s00 + 960) (lw_Z below #[Value.ref sb] s) (F0 m 234 ls [.int v11, .int (nI mT), .ref rn]) := by
    clear hB hl ls locs H
    intro z12 H locs ls hB hl
    refine lv_iadd hx hb dL_law_234 ?_
    replace hf := ob2_s hf
    obtain ⟨r19, sd20, hc, hf⟩ := hf
    refine e_Vi (S := Unit) (As := [.int ((nI mT) + v11)]) (rest := []) (wc := cN rn sd8) (wr := (wF [cU cyI cyB cyO ua ub up aw as' pa β υ ω sid τs n, [(bu, .inl (cyI, 8, .inl b))], cX cyI cyA cyT wa ks ts kr ta sa ra K mT Ns ζ κ Φ Ψ, [(nb, .inl (cyW, 9, .inr (.inr (.inr (.inr (fun j => (pb j).map (va_up pwa pc0 pv)))))))], cXs cyI cyA cyT (va_up pwa pc0 pv) (va_up pks pc0 u.1) (va_up pts pc0 u.2.1) (va_up pkr pc0 u.2.2.1) (va_up pta pc0 u.2.2.2.1) (va_up psa pc0 u.2.2.2.2.1) (va_up pra pc0 u.2.2.2.2.2) K mT Ns pζ2 pκ3 pΦ4 pΨ5 pc01])) (w1 := fun _ => cN rn sd20) ⟨hx, hb, hml, hown, hts⟩ (kX4_below l dC dI rn H.size hc) (cwV 1 hts (gv_X4_below_107 hgb) rfl rfl rfl (by decide +kernel) ⟨(Nat.le_of_ble_eq_true rfl), (Nat.le_of_ble_eq_true rfl)⟩) (pcut_pre (hB.perm (wperm (L' := [cN rn sd8, cU cyI cyB cyO ua ub up aw as' pa β υ ω sid τs n, [(bu, .inl (cyI, 8, .inl b))], cX cyI cyA cyT wa ks ts kr ta sa ra K mT Ns ζ κ Φ Ψ, [(nb, .inl (cyW, 9, .inr (.inr (.inr (.inr (fun j => (pb j).map (va_up pwa pc0 pv)))))))], cXs cyI cyA cyT (va_up pwa pc0 pv) (va_up pks pc0 u.1) (va_up pts pc0 u.2.1) (va_up pkr pc0 u.2.2.1) (va_up pta pc0 u.2.2.2.1) (va_up psa pc0 u.2.2.2.2.1) (va_up pra pc0 u.2.2.2.2.2) K mT Ns pζ2 pκ3 pΦ4 pΨ5 pc01]) [2, 0, 1, 3, 4, 5] (by decide +kernel) rfl rfl)) (hK.sub [] rfl) (.ref rn :: [.int ((nI mT) + v11)])) hB hA (g_recv (ci := 4) hK (hB.perm (wperm (L' := [cN rn sd8, cU cyI cyB cyO ua ub up aw as' pa β υ ω sid τs n, [(bu, .inl (cyI, 8, .inl b))], cX cyI cyA cyT wa ks ts kr ta sa ra K mT Ns ζ κ Φ Ψ, [(nb, .inl (cyW, 9, .inr (.inr (.inr (.inr (fun j => (pb j).map (va_up pwa pc0 pv)))))))], cXs cyI cyA cyT (va_up pwa pc0 pv) (va_up pks pc0 u.1) (va_up pts pc0 u.2.1) (va_up pkr pc0 u.2.2.1) (va_up pta pc0 u.2.2.2.1) (va_up psa pc0 u.2.2.2.2.1) (va_up pra pc0 u.2.2.2.2.2) K mT Ns pζ2 pκ3 pΦ4 pΨ5 pc01]) [2, 0, 1, 3, 4, 5] (by decide +kernel) rfl rfl)) 0 rfl rfl rfl) (wperm (L' := [cN rn sd8, cU cyI cyB cyO ua ub up aw as' pa β υ ω sid τs n, [(bu, .inl (cyI, 8, .inl b))], cX cyI cyA cyT wa ks ts kr ta sa ra K mT Ns ζ κ Φ Ψ, [(nb, .inl (cyW, 9, .inr (.inr (.inr (.inr (fun j => (pb j).map (va_up pwa pc0 pv)))))))], cXs cyI cyA cyT (va_up pwa pc0 pv) (va_up pks pc0 u.1) (va_up pts pc0 u.2.1) (va_up pkr pc0 u.2.2.1) (va_up pta pc0 u.2.2.2.1) (va_up psa pc0 u.2.2.2.2.1) (va_up pra pc0 u.2.2.2.2.2) K mT Ns pζ2 pκ3 pΦ4 pΨ5 pc01]) [2, 0, 1, 3, 4, 5] (by decide +kernel) rfl rfl) rfl hl.1 rfl (Nat.le_of_ble_eq_true rfl) dL_law_235 ⟨Nat.le_trans (m := 500000) (by show _ ≤ 500000; omega) rm_c, Nat.le_trans (m := 6000000) (by show _ ≤ 6000000; omega) rm_s⟩ ?_
    clear hB locs H
    intro r9 _ H locs hr9 hB
    rw [hr9]
    replace hB := hB.perm wF_un1
    replace hB := hB.perm (wperm (L' := [cU cyI cyB cyO ua ub up aw as' pa β υ ω sid τs n, [(bu, .inl (cyI, 8, .inl b))], cN rn sd20, cX cyI cyA cyT wa ks ts kr ta sa ra K mT Ns ζ κ Φ Ψ, [(nb, .inl (cyW, 9, .inr (.inr (.inr (.inr (fun j => (pb j).map (va_up pwa pc0 pv)))))))], cXs cyI cyA cyT (va_up pwa pc0 pv) (va_up pks pc0 u.1) (va_up pts pc0 u.2.1) (va_up pkr pc0 u.2.2.1) (va_up pta pc0 u.2.2.2.1) (va_up psa pc0 u.2.2.2.2.1) (va_up pra pc0 u.2.2.2.2.2) K mT Ns pζ2 pκ3 pΦ4 pΨ5 pc01]) [1, 2, 0, 3, 4, 5] (by decide +kernel) rfl rfl)
    refine lv_istore (lv' := [(14, .int r19), (13, .int (nI mT)), (12, .int (-2000000097 : Int32)), (10, .ref pv), (9, .int l9), (8, .int l8), (7, .ref nb), (6, .ref wa), (5, .ref rn), (3, .ref ua), (2, .int l2), (0, .ref sb)]) hx hb dL_law_238 hl (by decide) rfl ?_
    clear hl ls
    intro ls hl
    refine lv_iload hx hb dL_law_240 (lv_at hl 0 rfl) ?_
    refine lv_iload hx hb dL_law_242 (lv_at hl 1 rfl) ?_
    replace hf := ob1_s hf
    obtain ⟨v21, hJ22, hf⟩ := hf
    have kJ23 : ∀ (H : Heap) (locs : List Loc) (ls : Array Slot), Bd (dC, dI) [(cyI, .int), (cyB, .byte), (cyO, .object "UndoJourneys$World"), (cyA, .array .int), (cyT, .object "UndoJourneysLaw$Trip"), (cyW, .object "UndoJourneysLaw$World"), (cyZ, .boolean)] (va_A [] s.heap.size) s (wF [cU cyI cyB cyO ua ub up aw as' pa β υ ω sid τs n, [(bu, .inl (cyI, 8, .inl b))], cN rn sd20, cX cyI cyA cyT wa ks ts kr ta sa ra K mT Ns ζ κ Φ Ψ, [(nb, .inl (cyW, 9, .inr (.inr (.inr (.inr (fun j => (pb j).map (va_up pwa pc0 pv)))))))], cXs cyI cyA cyT (va_up pwa pc0 pv) (va_up pks pc0 u.1) (va_up pts pc0 u.2.1) (va_up pkr pc0 u.2.2.1) (va_up pta pc0 u.2.2.2.1) (va_up psa pc0 u.2.2.2.2.1) (va_up pra pc0 u.2.2.2.2.2) K mT Ns pζ2 pκ3 pΦ4 pΨ5 pc01]) H locs → lv_has ls 25 [(14, .int r19), (13, .int (nI mT)), (12, .int (-2000000097 : Int32)), (10, .ref pv), (9, .int l9), (8, .int l8), (7, .ref nb), (6, .ref wa), (5, .ref rn), (3, .ref ua), (2, .int l2), (0, .ref sb)] → W p l e room_1 s m #[Value.ref sb] below meth c H locs (c00 + 125) (s00 + 960) (lw_Z below #[Value.ref sb] s) (F0 m 259 ls [va_rf (Option.map ta v21)]) := by
      clear hB hl ls locs H
      intro H locs ls hB hl
      refine lv_astoreR (lv' := [(15, va_rf (Option.map ta v21)), (14, .int r19), (13, .int (nI mT)), (12, .int (-2000000097 : Int32)), (10, .ref pv), (9, .int l9), (8, .int l8), (7, .ref nb), (6, .ref wa), (5, .ref rn), (3, .ref ua), (2, .int l2), (0, .ref sb)]) hx hb dL_law_259 hl (by decide) rfl ?_
      clear hl ls
      intro ls hl
      refine lv_iconst (v := (0 : Int32)) hx hb dL_law_261 (by decide) ?_
      refine lv_istoreS (l1 := []) (l2 := [(14, .int r19), (13, .int (nI mT)), (12, .int (-2000000097 : Int32)), (10, .ref pv), (9, .int l9), (8, .int l8), (7, .ref nb), (6, .ref wa), (5, .ref rn), (3, .ref ua), (2, .int l2), (0, .ref sb)]) (j := 15) (o := Option.map ta v21) (lv' := [(16, .int (0 : Int32)), (15, va_rf (Option.map ta v21)), (14, .int r19), (13, .int (nI mT)), (12, .int (-2000000097 : Int32)), (10, .ref pv), (9, .int l9), (8, .int l8), (7, .ref nb), (6, .ref wa), (5, .ref rn), (3, .ref ua), (2, .int l2), (0, .ref sb)]) hx hb dL_law_262 hl (by decide) (by decide) rfl ?_
      clear hl ls
      intro ls hl
      replace hf := ob3_s hf
      obtain ⟨v68, v69, sd70, hL73, hf⟩ := hf
      have kE71 : ∀  (H : Heap) (locs : List Loc) (ls : Array Slot), Bd (dC, dI) [(cyI, .int), (cyB, .byte), (cyO, .object "UndoJourneys$World"), (cyA, .array .int), (cyT, .object "UndoJourneysLaw$Trip"), (cyW, .object "UndoJourneysLaw$World"), (cyZ, .boolean)] (va_A [] s.heap.size) s (wF [cU cyI cyB cyO ua ub up aw as' pa β υ ω sid τs n, [(bu, .inl (cyI, 8, .inl b))], cN rn sd70, cX cyI cyA cyT wa ks ts kr ta sa ra K mT Ns ζ κ Φ Ψ, [(nb, .inl (cyW, 9, .inr (.inr (.inr (.inr (fun j => (pb j).map (va_up pwa pc0 pv)))))))], cXs cyI cyA cyT (va_up pwa pc0 pv) (va_up pks pc0 u.1) (va_up pts pc0 u.2.1) (va_up pkr pc0 u.2.2.1) (va_up pta pc0 u.2.2.2.1) (va_up psa pc0 u.2.2.2.2.1) (va_up pra pc0 u.2.2.2.2.2) K mT Ns pζ2 pκ3 pΦ4 pΨ5 pc01]) H locs → lv_has ls 25 [(15, va_rf (Option.map ta v68)), (14, .int v69), (12, .int (-2000000097 : Int32)), (10, .ref pv), (9, .int l9), (8, .int l8), (7, .ref nb), (6, .ref wa), (5, .ref rn), (3, .ref ua), (2, .int l2), (0, .ref sb)] → W p l e room_1 s m #[Value.ref sb] below meth c H locs (c00 + 125) (s00 + 960) (lw_Z below #[Value.ref sb] s) (F0 m 332 ls []) := by
        clear hB hl ls locs H
        intro H locs ls hB hl
        refine lv_aloadR hx hb dL_law_332 (lv_at hl 0 rfl) ?_
        replace hf := ob2_s hf
        obtain ⟨v75, v76, hJ78, hf⟩ := hf
        have kJ79 : (v76 = 0 ∨ v76 = 1) → ∀ (H : Heap) (locs : List Loc) (ls : Array Slot), Bd (dC, dI) [(cyI, .int), (cyB, .byte), (cyO, .object "UndoJourneys$World"), (cyA, .array .int), (cyT, .object "UndoJourneysLaw$Trip"), (cyW, .object "UndoJourneysLaw$World"), (cyZ, .boolean)] (va_A [] s.heap.size) s (wF [cU cyI cyB cyO ua ub up aw as' pa β υ ω sid τs n, [(bu, .inl (cyI, 8, .inl b))], cN rn sd70, cX cyI cyA cyT wa ks ts kr ta sa ra K mT Ns ζ κ Φ Ψ, [(nb, .inl (cyW, 9, .inr (.inr (.inr (.inr (fun j => (pb j).map (va_up pwa pc0 pv)))))))], cXs cyI cyA cyT (va_up pwa pc0 pv) (va_up pks pc0 u.1) (va_up pts pc0 u.2.1) (va_up pkr pc0 u.2.2.1) (va_up pta pc0 u.2.2.2.1) (va_up psa pc0 u.2.2.2.2.1) (va_up pra pc0 u.2.2.2.2.2) K mT Ns pζ2 pκ3 pΦ4 pΨ5 pc01]) H locs → lv_has ls 25 [(15, va_rf (Option.map ta v75)), (14, .int v69), (12, .int (-2000000097 : Int32)), (10, .ref pv), (9, .int l9), (8, .int l8), (7, .ref nb), (6, .ref wa), (5, .ref rn), (3, .ref ua), (2, .int l2), (0, .ref sb)] → W p l e room_1 s m #[Value.ref sb] below meth c H locs (c00 + 125) (s00 + 960) (lw_Z below #[Value.ref sb] s) (F0 m 351 ls [.int v76]) := by
          clear hB hl ls locs H
          intro z77 H locs ls hB hl
          refine lv_istoreS (l1 := []) (l2 := [(14, .int v69), (12, .int (-2000000097 : Int32)), (10, .ref pv), (9, .int l9), (8, .int l8), (7, .ref nb), (6, .ref wa), (5, .ref rn), (3, .ref ua), (2, .int l2), (0, .ref sb)]) (j := 15) (o := Option.map ta v75) (lv' := [(16, .int v76), (15, va_rf (Option.map ta v75)), (14, .int v69), (12, .int (-2000000097 : Int32)), (10, .ref pv), (9, .int l9), (8, .int l8), (7, .ref nb), (6, .ref wa), (5, .ref rn), (3, .ref ua), (2, .int l2), (0, .ref sb)]) hx hb dL_law_351 hl (by decide) (by decide) rfl ?_
          clear hl ls
          intro ls hl
          refine lv_aloadR hx hb dL_law_353 (lv_at hl 1 rfl) ?_
          replace hf := ob2_s hf
          obtain ⟨v83, v84, hJ85, hf⟩ := hf
          have kJ86 : ∀ (H : Heap) (locs : List Loc) (ls : Array Slot), Bd (dC, dI) [(cyI, .int), (cyB, .byte), (cyO, .object "UndoJourneys$World"), (cyA, .array .int), (cyT, .object "UndoJourneysLaw$Trip"), (cyW, .object "UndoJourneysLaw$World"), (cyZ, .boolean)] (va_A [] s.heap.size) s (wF [cU cyI cyB cyO ua ub up aw as' pa β υ ω sid τs n, [(bu, .inl (cyI, 8, .inl b))], cN rn sd70, cX cyI cyA cyT wa ks ts kr ta sa ra K mT Ns ζ κ Φ Ψ, [(nb, .inl (cyW, 9, .inr (.inr (.inr (.inr (fun j => (pb j).map (va_up pwa pc0 pv)))))))], cXs cyI cyA cyT (va_up pwa pc0 pv) (va_up pks pc0 u.1) (va_up pts pc0 u.2.1) (va_up pkr pc0 u.2.2.1) (va_up pta pc0 u.2.2.2.1) (va_up psa pc0 u.2.2.2.2.1) (va_up pra pc0 u.2.2.2.2.2) K mT Ns pζ2 pκ3 pΦ4 pΨ5 pc01]) H locs → lv_has ls 25 [(16, .int v76), (15, va_rf (Option.map ta v83)), (14, .int v69), (12, .int v84), (10, .ref pv), (9, .int l9), (8, .int l8), (7, .ref nb), (6, .ref wa), (5, .ref rn), (3, .ref ua), (2, .int l2), (0, .ref sb)] → W p l e room_1 s m #[Value.ref sb] below meth c H locs (c00 + 125) (s00 + 960) (lw_Z below #[Value.ref sb] s) (F0 m 362 ls []) := by
            clear hB hl ls locs H
            intro H locs ls hB hl
            replace hf := ob11_s hf
            obtain ⟨o88, o89, pa90, υ91, ω92, sid93, sd94, ζ95, κ96, Φ97, Ψ98, hc, hf⟩ := hf
            refine kR362 hx hb hml hown hts hX hbl hbA hl0 hK hEV hr hlocks hKn hmT hNs hc (by show _ ≤ 500000; omega) (by show _ ≤ 6000000; omega) hB (lv_sub hl [0, 1, 2, 3, 4, 5, 6, 7, 8, 9, 10, 11, 12] rfl) (fun  H locs ls hB hl => ?_)
            refine lv_iload hx hb dL_law_954 (lv_at hl 0 rfl) ?_
            replace hf := ob2_s hf
            obtain ⟨v99, pb100, hJ101, hf⟩ := hf
            have kJ102 : ∀ (H : Heap) (locs : List Loc) (ls : Array Slot), Bd (dC, dI) [(cyI, .int), (cyB, .byte), (cyO, .object "UndoJourneys$World"), (cyA, .array .int), (cyT, .object "UndoJourneysLaw$Trip"), (cyW, .object "UndoJourneysLaw$World"), (cyZ, .boolean)] (va_A [] s.heap.size) s (wF [cU cyI cyB cyO ua ub up aw as' pa90 β υ91 ω92 sid93 τs n, [(bu, .inl (cyI, 8, .inl b))], cN rn sd94, cX cyI cyA cyT wa ks ts kr ta sa ra K mT Ns ζ95 κ96 Φ97 Ψ98, [(nb, .inl (cyW, 9, .inr (.inr (.inr (.inr (fun j => (pb100 j).map (va_up pwa pc0 pv)))))))], cXs cyI cyA cyT (va_up pwa pc0 pv) (va_up pks pc0 u.1) (va_up pts pc0 u.2.1) (va_up pkr pc0 u.2.2.1) (va_up pta pc0 u.2.2.2.1) (va_up psa pc0 u.2.2.2.2.1) (va_up pra pc0 u.2.2.2.2.2) K mT Ns pζ2 pκ3 pΦ4 pΨ5 pc01]) H locs → lv_has ls 25 [(9, .int l9), (8, .int v99), (7, .ref nb), (6, .ref wa), (5, .ref rn), (3, .ref ua), (2, .int l2), (1, .int o88), (0, .ref sb)] → W p l e room_1 s m #[Value.ref sb] below meth c H locs (c00 + 152) (s00 + 1174) (lw_Z below #[Value.ref sb] s) (F0 m 995 ls []) := by
              clear hB hl ls locs H
              intro H locs ls hB hl
              refine lv_iload_n hx hb dL_law_995 rfl (lv_at hl 7 rfl) ?_
              replace hf := ob1_s hf
              obtain ⟨v152, hJ154, hf⟩ := hf
              have kJ155 : (v152 = 0 ∨ v152 = 1) → ∀ (H : Heap) (locs : List Loc) (ls : Array Slot), Bd (dC, dI) [(cyI, .int), (cyB, .byte), (cyO, .object "UndoJourneys$World"), (cyA, .array .int), (cyT, .object "UndoJourneysLaw$Trip"), (cyW, .object "UndoJourneysLaw$World"), (cyZ, .boolean)] (va_A [] s.heap.size) s (wF [cU cyI cyB cyO ua ub up aw as' pa90 β υ91 ω92 sid93 τs n, [(bu, .inl (cyI, 8, .inl b))], cN rn sd94, cX cyI cyA cyT wa ks ts kr ta sa ra K mT Ns ζ95 κ96 Φ97 Ψ98, [(nb, .inl (cyW, 9, .inr (.inr (.inr (.inr (fun j => (pb100 j).map (va_up pwa pc0 pv)))))))], cXs cyI cyA cyT (va_up pwa pc0 pv) (va_up pks pc0 u.1) (va_up pts pc0 u.2.1) (va_up pkr pc0 u.2.2.1) (va_up pta pc0 u.2.2.2.1) (va_up psa pc0 u.2.2.2.2.1) (va_up pra pc0 u.2.2.2.2.2) K mT Ns pζ2 pκ3 pΦ4 pΨ5 pc01]) H locs → lv_has ls 25 [(9, .int l9), (8, .int v99), (7, .ref nb), (6, .ref wa), (5, .ref rn), (3, .ref ua), (2, .int l2), (0, .ref sb)] → W p l e room_1 s m #[Value.ref sb] below meth c H locs (c00 + 2152) (s00 + 13174) (lw_Z below #[Value.ref sb] s) (F0 m 1013 ls [.int v152]) := by
                clear hB hl ls locs H
                intro z153 H locs ls hB hl
                refine lv_istore_n (lv' := [(1, .int v152), (9, .int l9), (8, .int v99), (7, .ref nb), (6, .ref wa), (5, .ref rn), (3, .ref ua), (2, .int l2), (0, .ref sb)]) hx hb dL_law_1013 rfl hl (by decide) rfl ?_
                clear hl ls
                intro ls hl
                obtain ⟨e0, e1, e2, e3, e4, e5, e6, e7, e8, e9, e10, e11, e12, e13, e14, e15, e16⟩ := inj17 hf
                subst e0
                subst e1
                subst e2
                subst e3
                subst e4
                subst e5
                subst e6
                subst e7
                subst e8
                subst e9
                subst e10
                subst e11
                subst e12
                subst e13
                subst e14
                subst e15
                subst e16
                exact nxt _ _ _ _ _ _ _ _ _ _ hB (lv_sub hl [1, 2, 3, 4, 5, 6, 7, 0, 8] rfl)
              replace hJ154 := ob1_s hJ154
              obtain ⟨t156, hD157, hJ154⟩ := hJ154
              have kTt156 : t156 = true → ∀ (H : Heap) (locs : List Loc), Bd (dC, dI) [(cyI, .int), (cyB, .byte), (cyO, .object "UndoJourneys$World"), (cyA, .array .int), (cyT, .object "UndoJourneysLaw$Trip"), (cyW, .object "UndoJourneysLaw$World"), (cyZ, .boolean)] (va_A [] s.heap.size) s (wF [cU cyI cyB cyO ua ub up aw as' pa90 β υ91 ω92 sid93 τs n, [(bu, .inl (cyI, 8, .inl b))], cN rn sd94, cX cyI cyA cyT wa ks ts kr ta sa ra K mT Ns ζ95 κ96 Φ97 Ψ98, [(nb, .inl (cyW, 9, .inr (.inr (.inr (.inr (fun j => (pb100 j).map (va_up pwa pc0 pv)))))))], cXs cyI cyA cyT (va_up pwa pc0 pv) (va_up pks pc0 u.1) (va_up pts pc0 u.2.1) (va_up pkr pc0 u.2.2.1) (va_up pta pc0 u.2.2.2.1) (va_up psa pc0 u.2.2.2.2.1) (va_up pra pc0 u.2.2.2.2.2) K mT Ns pζ2 pκ3 pΦ4 pΨ5 pc01]) H locs → W p l e room_1 s m #[Value.ref sb] below meth c H locs (c00 + 2152) (s00 + 13174) (lw_Z below #[Value.ref sb] s) (F0 m 1008 ls []) := by
                intro ht H locs hB
                have hJ154 := cnd_t ht hJ154
                refine lv_iconst (v := (1 : Int32)) hx hb dL_law_1008 (by decide) ?_
                refine lv_goto (tgt := 1013) hx hb dL_law_1009 (by decide) ?_
                have e0 := inj1 hJ154
                subst e0
                exact kJ155 (Or.inr rfl) _ _ _ hB (lv_sub hl [0, 1, 2, 3, 4, 5, 6, 8] rfl)
              have kFt156 : t156 = false → ∀ (H : Heap) (locs : List Loc), Bd (dC, dI) [(cyI, .int), (cyB, .byte), (cyO, .object "UndoJourneys$World"), (cyA, .array .int), (cyT, .object "UndoJourneysLaw$Trip"), (cyW, .object "UndoJourneysLaw$World"), (cyZ, .boolean)] (va_A [] s.heap.size) s (wF [cU cyI cyB cyO ua ub up aw as' pa90 β υ91 ω92 sid93 τs n, [(bu, .inl (cyI, 8, .inl b))], cN rn sd94, cX cyI cyA cyT wa ks ts kr ta sa ra K mT Ns ζ95 κ96 Φ97 Ψ98, [(nb, .inl (cyW, 9, .inr (.inr (.inr (.inr (fun j => (pb100 j).map (va_up pwa pc0 pv)))))))], cXs cyI cyA cyT (va_up pwa pc0 pv) (va_up pks pc0 u.1) (va_up pts pc0 u.2.1) (va_up pkr pc0 u.2.2.1) (va_up pta pc0 u.2.2.2.1) (va_up psa pc0 u.2.2.2.2.1) (va_up pra pc0 u.2.2.2.2.2) K mT Ns pζ2 pκ3 pΦ4 pΨ5 pc01]) H locs → W p l e room_1 s m #[Value.ref sb] below meth c H locs (c00 + 2152) (s00 + 13174) (lw_Z below #[Value.ref sb] s) (F0 m 1012 ls []) := by
                intro ht H locs hB
                have hJ154 := cnd_f ht hJ154
                refine lv_iconst (v := (0 : Int32)) hx hb dL_law_1012 (by decide) ?_
                have e0 := inj1 hJ154
                subst e0
                exact kJ155 (Or.inl rfl) _ _ _ hB (lv_sub hl [0, 1, 2, 3, 4, 5, 6, 8] rfl)
              refine lv_if_eq (tgt := 1012) hx hb dL_law_996 (by decide) (fun c158 => ?_) (fun c158 => ?_)
              · replace hD157 := ite_t c158 hD157
                have e0 := inj1 hD157
                refine W.widen (k := (c00 + 2152)) (n := (s00 + 13174)) (by omega) (by omega) ?_
                exact kFt156 e0.symm _ _ hB
              · replace hD157 := ite_f c158 hD157
                refine lv_aload_n hx hb dL_law_999 rfl (lv_at hl 5 rfl) ?_
                refine lv_aload hx hb dL_law_1000 (lv_at hl 3 rfl) ?_
                replace hD157 := ob1_s hD157
                obtain ⟨r159, hc, hD157⟩ := hD157
                refine e_Si (S := Unit) (As := [.ref ua, .ref wa]) (rest := []) (wc := (wF [cU cyI cyB cyO ua ub up aw as' pa90 β υ91 ω92 sid93 τs n, cX cyI cyA cyT wa ks ts kr ta sa ra K mT Ns ζ95 κ96 Φ97 Ψ98])) (wr := (wF [[(bu, .inl (cyI, 8, .inl b))], cN rn sd94, [(nb, .inl (cyW, 9, .inr (.inr (.inr (.inr (fun j => (pb100 j).map (va_up pwa pc0 pv)))))))], cXs cyI cyA cyT (va_up pwa pc0 pv) (va_up pks pc0 u.1) (va_up pts pc0 u.2.1) (va_up pkr pc0 u.2.2.1) (va_up pta pc0 u.2.2.2.1) (va_up psa pc0 u.2.2.2.2.1) (va_up pra pc0 u.2.2.2.2.2) K mT Ns pζ2 pκ3 pΦ4 pΨ5 pc01])) (w1 := fun _ => (wF [cU cyI cyB cyO ua ub up aw as' pa90 β υ91 ω92 sid93 τs n, cX cyI cyA cyT wa ks ts kr ta sa ra K mT Ns ζ95 κ96 Φ97 Ψ98])) ⟨hx, hb, hml, hown, hts⟩ (kL_agrees l hl0 dC dI cyI cyB cyO cyA cyT cyW cyZ ua ub up aw as' kS wa ks ts kr ta sa ra H.size hc) (va_cwS 2 hts (gv_L_agrees_204 hgb) rfl rfl rfl (by decide +kernel) ⟨(Nat.le_of_ble_eq_true rfl), (Nat.le_of_ble_eq_true rfl)⟩) (epre_left hEV (hB.perm ((wperm (L' := [cU cyI cyB cyO ua ub up aw as' pa90 β υ91 ω92 sid93 τs n, cX cyI cyA cyT wa ks ts kr ta sa ra K mT Ns ζ95 κ96 Φ97 Ψ98, [(bu, .inl (cyI, 8, .inl b))], cN rn sd94, [(nb, .inl (cyW, 9, .inr (.inr (.inr (.inr (fun j => (pb100 j).map (va_up pwa pc0 pv)))))))], cXs cyI cyA cyT (va_up pwa pc0 pv) (va_up pks pc0 u.1) (va_up pts pc0 u.2.1) (va_up pkr pc0 u.2.2.1) (va_up pta pc0 u.2.2.2.1) (va_up psa pc0 u.2.2.2.2.1) (va_up pra pc0 u.2.2.2.2.2) K mT Ns pζ2 pκ3 pΦ4 pΨ5 pc01]) [0, 3, 1, 2, 4, 5] (by decide +kernel) rfl rfl).trans (wF_cut (a := [cU cyI cyB cyO ua ub up aw as' pa90 β υ91 ω92 sid93 τs n, cX cyI cyA cyT wa ks ts kr ta sa ra K mT Ns ζ95 κ96 Φ97 Ψ98]) (b := [[(bu, .inl (cyI, 8, .inl b))], cN rn sd94, [(nb, .inl (cyW, 9, .inr (.inr (.inr (.inr (fun j => (pb100 j).map (va_up pwa pc0 pv)))))))], cXs cyI cyA cyT (va_up pwa pc0 pv) (va_up pks pc0 u.1) (va_up pts pc0 u.2.1) (va_up pkr pc0 u.2.2.1) (va_up pta pc0 u.2.2.2.1) (va_up psa pc0 u.2.2.2.2.1) (va_up pra pc0 u.2.2.2.2.2) K mT Ns pζ2 pκ3 pΦ4 pΨ5 pc01])))) hA hK [.ref ua, .ref wa]) hB hA ((wperm (L' := [cU cyI cyB cyO ua ub up aw as' pa90 β υ91 ω92 sid93 τs n, cX cyI cyA cyT wa ks ts kr ta sa ra K mT Ns ζ95 κ96 Φ97 Ψ98, [(bu, .inl (cyI, 8, .inl b))], cN rn sd94, [(nb, .inl (cyW, 9, .inr (.inr (.inr (.inr (fun j => (pb100 j).map (va_up pwa pc0 pv)))))))], cXs cyI cyA cyT (va_up pwa pc0 pv) (va_up pks pc0 u.1) (va_up pts pc0 u.2.1) (va_up pkr pc0 u.2.2.1) (va_up pta pc0 u.2.2.2.1) (va_up psa pc0 u.2.2.2.2.1) (va_up pra pc0 u.2.2.2.2.2) K mT Ns pζ2 pκ3 pΦ4 pΨ5 pc01]) [0, 3, 1, 2, 4, 5] (by decide +kernel) rfl rfl).trans (wF_cut (a := [cU cyI cyB cyO ua ub up aw as' pa90 β υ91 ω92 sid93 τs n, cX cyI cyA cyT wa ks ts kr ta sa ra K mT Ns ζ95 κ96 Φ97 Ψ98]) (b := [[(bu, .inl (cyI, 8, .inl b))], cN rn sd94, [(nb, .inl (cyW, 9, .inr (.inr (.inr (.inr (fun j => (pb100 j).map (va_up pwa pc0 pv)))))))], cXs cyI cyA cyT (va_up pwa pc0 pv) (va_up pks pc0 u.1) (va_up pts pc0 u.2.1) (va_up pkr pc0 u.2.2.1) (va_up pta pc0 u.2.2.2.1) (va_up psa pc0 u.2.2.2.2.1) (va_up pra pc0 u.2.2.2.2.2) K mT Ns pζ2 pκ3 pΦ4 pΨ5 pc01]))) rfl hl.1 rfl (Nat.le_of_ble_eq_true rfl) dL_law_1002 ⟨Nat.le_trans (m := 500000) (by show _ ≤ 500000; omega) rm_c, Nat.le_trans (m := 6000000) (by show _ ≤ 6000000; omega) rm_s⟩ ?_
                clear hB locs H
                intro r9 _ H locs hr9 hB
                obtain ⟨hr9, z160⟩ := hr9
                rw [hr9]
                replace hB := hB.perm wF_uncut
                replace hB := hB.perm (wperm (L' := [cU cyI cyB cyO ua ub up aw as' pa90 β υ91 ω92 sid93 τs n, [(bu, .inl (cyI, 8, .inl b))], cN rn sd94, cX cyI cyA cyT wa ks ts kr ta sa ra K mT Ns ζ95 κ96 Φ97 Ψ98, [(nb, .inl (cyW, 9, .inr (.inr (.inr (.inr (fun j => (pb100 j).map (va_up pwa pc0 pv)))))))], cXs cyI cyA cyT (va_up pwa pc0 pv) (va_up pks pc0 u.1) (va_up pts pc0 u.2.1) (va_up pkr pc0 u.2.2.1) (va_up pta pc0 u.2.2.2.1) (va_up psa pc0 u.2.2.2.2.1) (va_up pra pc0 u.2.2.2.2.2) K mT Ns pζ2 pκ3 pΦ4 pΨ5 pc01]) [0, 2, 3, 1, 4, 5] (by decide +kernel) rfl rfl)
                refine lv_if_eq (tgt := 1012) hx hb dL_law_1005 (by decide) (fun c161 => ?_) (fun c161 => ?_)
                · replace hD157 := ite_t c161 hD157
                  have e0 := inj1 hD157
                  exact kFt156 e0.symm _ _ hB
                · replace hD157 := ite_f c161 hD157
                  have e0 := inj1 hD157
                  exact kTt156 e0.symm _ _ hB
            refine lv_if_eq (tgt := 995) hx hb dL_law_956 (by decide) (fun c103 => ?_) (fun c103 => ?_)
            · replace hJ101 := ite_t c103 hJ101
              obtain ⟨e0, e1⟩ := inj2 hJ101
              subst e0
              subst e1
              exact kJ102 _ _ _ hB (lv_sub hl [2, 3, 4, 5, 6, 7, 8, 9, 10] rfl)
            · replace hJ101 := ite_f c103 hJ101
              refine lv_bipush (v := (8 : Int32)) hx hb dL_law_959 (by decide) ?_
              refine lv_istore (lv' := [(17, .int (8 : Int32)), (11, .int o89), (10, .ref pv), (9, .int l9), (8, .int l8), (7, .ref nb), (6, .ref wa), (5, .ref rn), (3, .ref ua), (2, .int l2), (1, .int o88), (0, .ref sb)]) hx hb dL_law_961 hl (by decide) rfl ?_
              clear hl ls
              intro ls hl
              replace hJ101 := ob1_s hJ101
              obtain ⟨pb133, hL136, hJ101⟩ := hJ101
              have kE134 : ∀  (H : Heap) (locs : List Loc) (ls : Array Slot), Bd (dC, dI) [(cyI, .int), (cyB, .byte), (cyO, .object "UndoJourneys$World"), (cyA, .array .int), (cyT, .object "UndoJourneysLaw$Trip"), (cyW, .object "UndoJourneysLaw$World"), (cyZ, .boolean)] (va_A [] s.heap.size) s (wF [cU cyI cyB cyO ua ub up aw as' pa90 β υ91 ω92 sid93 τs n, [(bu, .inl (cyI, 8, .inl b))], cN rn sd94, cX cyI cyA cyT wa ks ts kr ta sa ra K mT Ns ζ95 κ96 Φ97 Ψ98, [(nb, .inl (cyW, 9, .inr (.inr (.inr (.inr (fun j => (pb133 j).map (va_up pwa pc0 pv)))))))], cXs cyI cyA cyT (va_up pwa pc0 pv) (va_up pks pc0 u.1) (va_up pts pc0 u.2.1) (va_up pkr pc0 u.2.2.1) (va_up pta pc0 u.2.2.2.1) (va_up psa pc0 u.2.2.2.2.1) (va_up pra pc0 u.2.2.2.2.2) K mT Ns pζ2 pκ3 pΦ4 pΨ5 pc01]) H locs → lv_has ls 25 [(10, .ref pv), (9, .int l9), (8, .int l8), (7, .ref nb), (6, .ref wa), (5, .ref rn), (3, .ref ua), (2, .int l2), (1, .int o88), (0, .ref sb)] → W p l e room_1 s m #[Value.ref sb] below meth c H locs (c00 + 152) (s00 + 1174) (lw_Z below #[Value.ref sb] s) (F0 m 986 ls []) := by
                clear hB hl ls locs H
                intro H locs ls hB hl
                refine lv_aload hx hb dL_law_986 (lv_at hl 3 rfl) ?_
                refine lv_iconst (v := (0 : Int32)) hx hb dL_law_988 (by decide) ?_
                refine lv_aload hx hb dL_law_989 (lv_at hl 0 rfl) ?_
                replace hJ101 := ob1_s hJ101
                obtain ⟨j138, e9, hJ101⟩ := hJ101
                obtain ⟨h_j138, e9⟩ := hixn_s e9
                replace hJ101 := ob1_s hJ101
                obtain ⟨_, g140, hJ101⟩ := hJ101
                replace hJ101 := ob1_s hJ101
                obtain ⟨pb139, e8, hJ101⟩ := hJ101
                replace e8 := inj1 e8
                have e7 : .ref pv = (va_rf (Option.map (va_up pwa pc0 pv) (some pc0))) := by simp only [Option.map_some, va_up_self]; rfl
                rw [e7]
                refine g_bst (w2 := (wF [[(nb, .inl (cyW, 9, .inr (.inr (.inr (.inr (fun j => (pb139 j).map (va_up pwa pc0 pv)))))))], cXs cyI cyA cyT (va_up pwa pc0 pv) (va_up pks pc0 u.1) (va_up pts pc0 u.2.1) (va_up pkr pc0 u.2.2.1) (va_up pta pc0 u.2.2.2.1) (va_up psa pc0 u.2.2.2.2.1) (va_up pra pc0 u.2.2.2.2.2) K mT Ns pζ2 pκ3 pΦ4 pΨ5 pc01, cU cyI cyB cyO ua ub up aw as' pa90 β υ91 ω92 sid93 τs n, [(bu, .inl (cyI, 8, .inl b))], cN rn sd94, cX cyI cyA cyT wa ks ts kr ta sa ra K mT Ns ζ95 κ96 Φ97 Ψ98])) hx hb hK rfl (hB.perm (wperm (L' := [[(nb, .inl (cyW, 9, .inr (.inr (.inr (.inr (fun j => (pb133 j).map (va_up pwa pc0 pv)))))))], cXs cyI cyA cyT (va_up pwa pc0 pv) (va_up pks pc0 u.1) (va_up pts pc0 u.2.1) (va_up pkr pc0 u.2.2.1) (va_up pta pc0 u.2.2.2.1) (va_up psa pc0 u.2.2.2.2.1) (va_up pra pc0 u.2.2.2.2.2) K mT Ns pζ2 pκ3 pΦ4 pΨ5 pc01, cU cyI cyB cyO ua ub up aw as' pa90 β υ91 ω92 sid93 τs n, [(bu, .inl (cyI, 8, .inl b))], cN rn sd94, cX cyI cyA cyT wa ks ts kr ta sa ra K mT Ns ζ95 κ96 Φ97 Ψ98]) [4, 5, 0, 1, 2, 3] (by decide +kernel) rfl rfl)) g140 e9 e8 dL_law_991 rfl ?_
                clear hB locs H
                intro H locs hB
                replace hB := hB.perm (wperm (L' := [cU cyI cyB cyO ua ub up aw as' pa90 β υ91 ω92 sid93 τs n, [(bu, .inl (cyI, 8, .inl b))], cN rn sd94, cX cyI cyA cyT wa ks ts kr ta sa ra K mT Ns ζ95 κ96 Φ97 Ψ98, [(nb, .inl (cyW, 9, .inr (.inr (.inr (.inr (fun j => (pb139 j).map (va_up pwa pc0 pv)))))))], cXs cyI cyA cyT (va_up pwa pc0 pv) (va_up pks pc0 u.1) (va_up pts pc0 u.2.1) (va_up pkr pc0 u.2.2.1) (va_up pta pc0 u.2.2.2.1) (va_up psa pc0 u.2.2.2.2.1) (va_up pra pc0 u.2.2.2.2.2) K mT Ns pζ2 pκ3 pΦ4 pΨ5 pc01]) [2, 3, 4, 5, 0, 1] (by decide +kernel) rfl rfl)
                refine lv_iinc (v := (l8 + (1 : Int32))) (lv' := [(8, .int (l8 + (1 : Int32))), (10, .ref pv), (9, .int l9), (7, .ref nb), (6, .ref wa), (5, .ref rn), (3, .ref ua), (2, .int l2), (1, .int o88), (0, .ref sb)]) hx hb dL_law_992 hl (k := 2) rfl rfl (by decide) rfl ?_
                clear hl ls
                intro ls hl
                obtain ⟨e0, e1⟩ := inj2 hJ101
                subst e0
                subst e1
                exact kJ102 _ _ _ hB (lv_sub hl [2, 0, 3, 4, 5, 6, 7, 8, 9] rfl)
              have key135 : ∀ (n9 : Nat) (v142 : Int32) (pb143 : (Nat → Option Nat))  (H : Heap) (locs : List Loc) (ls : Array Slot), loopM (fun st => mL_law_L963 fu K mT Ns l9 l8 l2 o88 τs n pa90 β υ91 ω92 sid93 b sd94 ζ95 κ96 Φ97 Ψ98 pζ2 pκ3 pΦ4 pΨ5 pc01 st.1 st.2) n9 (v142, pb143) = some pb133 → Bd (dC, dI) [(cyI, .int), (cyB, .byte), (cyO, .object "UndoJourneys$World"), (cyA, .array .int), (cyT, .object "UndoJourneysLaw$Trip"), (cyW, .object "UndoJourneysLaw$World"), (cyZ, .boolean)] (va_A [] s.heap.size) s (wF [cU cyI cyB cyO ua ub up aw as' pa90 β υ91 ω92 sid93 τs n, [(bu, .inl (cyI, 8, .inl b))], cN rn sd94, cX cyI cyA cyT wa ks ts kr ta sa ra K mT Ns ζ95 κ96 Φ97 Ψ98, [(nb, .inl (cyW, 9, .inr (.inr (.inr (.inr (fun j => (pb143 j).map (va_up pwa pc0 pv)))))))], cXs cyI cyA cyT (va_up pwa pc0 pv) (va_up pks pc0 u.1) (va_up pts pc0 u.2.1) (va_up pkr pc0 u.2.2.1) (va_up pta pc0 u.2.2.2.1) (va_up psa pc0 u.2.2.2.2.1) (va_up pra pc0 u.2.2.2.2.2) K mT Ns pζ2 pκ3 pΦ4 pΨ5 pc01]) H locs → lv_has ls 25 [(17, .int v142), (10, .ref pv), (9, .int l9), (8, .int l8), (7, .ref nb), (6, .ref wa), (5, .ref rn), (3, .ref ua), (2, .int l2), (1, .int o88), (0, .ref sb)] → W p l e room_1 s m #[Value.ref sb] below meth c H locs (c00 + 152) (s00 + 1174) (lw_Z below #[Value.ref sb] s) (F0 m 963 ls []) := by
                clear hB hl ls locs H
                intro n9
                induction n9 with
                | zero => intro v142 pb143 H locs ls hL136; exact (loopM_z hL136).elim
                | succ n9 ih9 =>
                  intro v142 pb143 H locs ls hL136 hB hl
                  replace hL136 := loopM_s hL136
                  obtain ⟨o145, hg137, hL136⟩ := hL136
                  have hg137 : mL_law_L963 fu K mT Ns l9 l8 l2 o88 τs n pa90 β υ91 ω92 sid93 b sd94 ζ95 κ96 Φ97 Ψ98 pζ2 pκ3 pΦ4 pΨ5 pc01 v142 pb143 = some o145 := hg137
                  unfold mL_law_L963 at hg137
                  refine lv_iload hx hb dL_law_963 (lv_at hl 0 rfl) ?_
                  refine lv_if_le (tgt := 986) hx hb dL_law_965 (by decide) (fun c147 => ?_) (fun c147 => ?_)
                  · replace hg137 := ite_t c147 hg137
                    replace hL136 := el1_l (inj1 hg137) hL136
                    have e0 := inj1 hL136
                    subst e0
                    exact kE134 _ _ _ hB (lv_sub hl [1, 2, 3, 4, 5, 6, 7, 8, 9, 10] rfl)
                  · replace hg137 := ite_f c147 hg137
                    refine lv_aload hx hb dL_law_968 (lv_at hl 4 rfl) ?_
                    refine lv_iload hx hb dL_law_970 (lv_at hl 0 rfl) ?_
                    refine lv_aload hx hb dL_law_972 (lv_at hl 4 rfl) ?_
                    refine lv_iload hx hb dL_law_974 (lv_at hl 0 rfl) ?_
                    refine lv_iconst (v := (1 : Int32)) hx hb dL_law_976 (by decide) ?_
                    refine lv_isub hx hb dL_law_977 ?_
                    replace hg137 := ob1_s hg137
                    obtain ⟨j148, e9, hg137⟩ := hg137
                    obtain ⟨h_j148, e9⟩ := hixn_s e9
                    refine va_aldq hx hb hK (hB.perm (wperm (L' := [[(nb, .inl (cyW, 9, .inr (.inr (.inr (.inr (fun j => (pb143 j).map (va_up pwa pc0 pv)))))))], cU cyI cyB cyO ua ub up aw as' pa90 β υ91 ω92 sid93 τs n, [(bu, .inl (cyI, 8, .inl b))], cN rn sd94, cX cyI cyA cyT wa ks ts kr ta sa ra K mT Ns ζ95 κ96 Φ97 Ψ98, cXs cyI cyA cyT (va_up pwa pc0 pv) (va_up pks pc0 u.1) (va_up pts pc0 u.2.1) (va_up pkr pc0 u.2.2.1) (va_up pta pc0 u.2.2.2.1) (va_up psa pc0 u.2.2.2.2.1) (va_up pra pc0 u.2.2.2.2.2) K mT Ns pζ2 pκ3 pΦ4 pΨ5 pc01]) [4, 0, 1, 2, 3, 5] (by decide +kernel) rfl rfl)).1 0 5 rfl rfl e9.1 dL_law_978 ?_
                    rw [e9.2]
                    replace hg137 := ob1_s hg137
                    obtain ⟨j149, e9, hg137⟩ := hg137
                    obtain ⟨h_j149, e9⟩ := hixn_s e9
                    replace hg137 := ob1_s hg137
                    obtain ⟨_, g151, hg137⟩ := hg137
                    replace hg137 := ob1_s hg137
                    obtain ⟨pb150, e8, hg137⟩ := hg137
                    replace e8 := inj1 e8
                    refine g_bst (w2 := (wF [[(nb, .inl (cyW, 9, .inr (.inr (.inr (.inr (fun j => (pb150 j).map (va_up pwa pc0 pv)))))))], cXs cyI cyA cyT (va_up pwa pc0 pv) (va_up pks pc0 u.1) (va_up pts pc0 u.2.1) (va_up pkr pc0 u.2.2.1) (va_up pta pc0 u.2.2.2.1) (va_up psa pc0 u.2.2.2.2.1) (va_up pra pc0 u.2.2.2.2.2) K mT Ns pζ2 pκ3 pΦ4 pΨ5 pc01, cU cyI cyB cyO ua ub up aw as' pa90 β υ91 ω92 sid93 τs n, [(bu, .inl (cyI, 8, .inl b))], cN rn sd94, cX cyI cyA cyT wa ks ts kr ta sa ra K mT Ns ζ95 κ96 Φ97 Ψ98])) hx hb hK rfl (hB.perm (wperm (L' := [[(nb, .inl (cyW, 9, .inr (.inr (.inr (.inr (fun j => (pb143 j).map (va_up pwa pc0 pv)))))))], cXs cyI cyA cyT (va_up pwa pc0 pv) (va_up pks pc0 u.1) (va_up pts pc0 u.2.1) (va_up pkr pc0 u.2.2.1) (va_up pta pc0 u.2.2.2.1) (va_up psa pc0 u.2.2.2.2.1) (va_up pra pc0 u.2.2.2.2.2) K mT Ns pζ2 pκ3 pΦ4 pΨ5 pc01, cU cyI cyB cyO ua ub up aw as' pa90 β υ91 ω92 sid93 τs n, [(bu, .inl (cyI, 8, .inl b))], cN rn sd94, cX cyI cyA cyT wa ks ts kr ta sa ra K mT Ns ζ95 κ96 Φ97 Ψ98]) [4, 5, 0, 1, 2, 3] (by decide +kernel) rfl rfl)) g151 e9 e8 dL_law_979 rfl ?_
                    clear hB locs H
                    intro H locs hB
                    replace hB := hB.perm (wperm (L' := [cU cyI cyB cyO ua ub up aw as' pa90 β υ91 ω92 sid93 τs n, [(bu, .inl (cyI, 8, .inl b))], cN rn sd94, cX cyI cyA cyT wa ks ts kr ta sa ra K mT Ns ζ95 κ96 Φ97 Ψ98, [(nb, .inl (cyW, 9, .inr (.inr (.inr (.inr (fun j => (pb150 j).map (va_up pwa pc0 pv)))))))], cXs cyI cyA cyT (va_up pwa pc0 pv) (va_up pks pc0 u.1) (va_up pts pc0 u.2.1) (va_up pkr pc0 u.2.2.1) (va_up pta pc0 u.2.2.2.1) (va_up psa pc0 u.2.2.2.2.1) (va_up pra pc0 u.2.2.2.2.2) K mT Ns pζ2 pκ3 pΦ4 pΨ5 pc01]) [2, 3, 4, 5, 0, 1] (by decide +kernel) rfl rfl)
                    refine lv_iinc (v := (v142 + (-1 : Int32))) (lv' := [(17, .int (v142 + (-1 : Int32))), (10, .ref pv), (9, .int l9), (8, .int l8), (7, .ref nb), (6, .ref wa), (5, .ref rn), (3, .ref ua), (2, .int l2), (1, .int o88), (0, .ref sb)]) hx hb dL_law_980 hl (k := 0) rfl rfl (by decide) rfl ?_
                    clear hl ls
                    intro ls hl
                    refine lv_goto (tgt := 963) hx hb dL_law_983 (by decide) ?_
                    replace hL136 := el1_r (inj1 hg137) hL136
                    exact ih9 _ _ _ _ _ hL136 hB (lv_sub hl [0, 1, 2, 3, 4, 5, 6, 7, 8, 9, 10] rfl)
              exact key135 10 _ _ _ _ _ hL136 hB (lv_sub hl [0, 2, 3, 4, 5, 6, 7, 8, 9, 10, 11] rfl)
          cases v75 with
          | none =>
              replace hJ85 := oN_n hJ85
              refine lv_ifnullN (tgt := 362) hx hb dL_law_355 (by decide) ?_
              obtain ⟨e0, e1⟩ := inj2 hJ85
              subst e0
              subst e1
              exact kJ86 _ _ _ hB (lv_sub hl [0, 1, 2, 3, 4, 5, 6, 7, 8, 9, 10, 11, 12] rfl)
          | some k87 =>
              replace hJ85 := oN_s hJ85
              refine lv_ifnull hx hb dL_law_355 ?_
              refine lv_ldc (v := (-2000000099 : Int32)) hx hb hown hq3 dL_law_358 ?_
              refine lv_istore (lv' := [(12, .int (-2000000099 : Int32)), (16, .int v76), (15, va_rf (Option.map ta (some k87))), (14, .int v69), (10, .ref pv), (9, .int l9), (8, .int l8), (7, .ref nb), (6, .ref wa), (5, .ref rn), (3, .ref ua), (2, .int l2), (0, .ref sb)]) hx hb dL_law_360 hl (by decide) rfl ?_
              clear hl ls
              intro ls hl
              obtain ⟨e0, e1⟩ := inj2 hJ85
              subst e0
              subst e1
              exact kJ86 _ _ _ hB (lv_sub hl [1, 2, 3, 0, 4, 5, 6, 7, 8, 9, 10, 11, 12] rfl)
        cases v68 with
        | none =>
            replace hJ78 := oN_n hJ78
            refine lv_ifnullN (tgt := 350) hx hb dL_law_334 (by decide) ?_
            refine lv_iconst (v := (0 : Int32)) hx hb dL_law_350 (by decide) ?_
            obtain ⟨e0, e1⟩ := inj2 hJ78
            subst e0
            subst e1
            exact kJ79 (Or.inl rfl) _ _ _ hB (lv_sub hl [0, 1, 2, 3, 4, 5, 6, 7, 8, 9, 10, 11] rfl)
        | some k80 =>
            replace hJ78 := oN_s hJ78
            refine lv_ifnull hx hb dL_law_334 ?_
            refine lv_aloadR hx hb dL_law_337 (lv_at hl 0 rfl) ?_
            -- k80
            replace hJ78 := ob1_s hJ78
            obtain ⟨_, h_k80, hJ78⟩ := hJ78
            replace h_k80 := gLt_s h_k80
            rw [show va_rf (Option.map ta (some k80)) = Value.ref (ta k80) from rfl]
            refine g_get (C := RX5) (T := TX5) (N := 7) hx hb hts hinX5 hown hK ((hB.perm (wperm (L' := [cX cyI cyA cyT wa ks ts kr ta sa ra K mT Ns ζ κ Φ Ψ, cU cyI cyB cyO ua ub up aw as' pa β υ ω sid τs n, [(bu, .inl (cyI, 8, .inl b))], cN rn sd70, [(nb, .inl (cyW, 9, .inr (.inr (.inr (.inr (fun j => (pb j).map (va_up pwa pc0 pv)))))))], cXs cyI cyA cyT (va_up pwa pc0 pv) (va_up pks pc0 u.1) (va_up pts pc0 u.2.1) (va_up pkr pc0 u.2.2.1) (va_up pta pc0 u.2.2.2.1) (va_up psa pc0 u.2.2.2.2.1) (va_up pra pc0 u.2.2.2.2.2) K mT Ns pζ2 pκ3 pΦ4 pΨ5 pc01]) [3, 0, 1, 2, 4, 5] (by decide +kernel) rfl rfl)).perm (cX_viewr cyI cyA cyT wa ks ts kr ta sa ra K mT Ns ζ κ Φ Ψ h_k80 _)) 0 rfl rfl 2 rfl hq2 rfl rfl dL_law_339 ?_
            refine lv_iconst (v := (5 : Int32)) hx hb dL_law_342 (by decide) ?_
            refine lv_icmp_ne (tgt := 350) hx hb dL_law_343 (by decide) (fun c82 => ?_) (fun c82 => ?_)
            · replace hJ78 := ite_f c82 hJ78
              refine lv_iconst (v := (0 : Int32)) hx hb dL_law_350 (by decide) ?_
              obtain ⟨e0, e1⟩ := inj2 hJ78
              subst e0
              subst e1
              exact kJ79 (Or.inl rfl) _ _ _ hB (lv_sub hl [0, 1, 2, 3, 4, 5, 6, 7, 8, 9, 10, 11] rfl)
            · replace hJ78 := ite_t c82 hJ78
              refine lv_iconst (v := (1 : Int32)) hx hb dL_law_346 (by decide) ?_
              refine lv_goto (tgt := 351) hx hb dL_law_347 (by decide) ?_
              obtain ⟨e0, e1⟩ := inj2 hJ78
              subst e0
              subst e1
              exact kJ79 (Or.inr rfl) _ _ _ hB (lv_sub hl [0, 1, 2, 3, 4, 5, 6, 7, 8, 9, 10, 11] rfl)
      have key72 : ∀ (n9 : Nat) (v163 : Int32) (v164 : (Option Nat)) (v165 : Int32) (sd166 : MS)  (H : Heap) (locs : List Loc) (ls : Array Slot), loopM (fun st => mL_law_L264 fu K mT Ns (nI mT) (-2000000097 : Int32) l9 l8 l2 τs n pa β υ ω sid b ζ κ Φ Ψ pb pζ2 pκ3 pΦ4 pΨ5 pc01 st.1 st.2.1 st.2.2.1 st.2.2.2) n9 (v163, v164, v165, sd166) = some (v68, v69, sd70) → Bd (dC, dI) [(cyI, .int), (cyB, .byte), (cyO, .object "UndoJourneys$World"), (cyA, .array .int), (cyT, .object "UndoJourneysLaw$Trip"), (cyW, .object "UndoJourneysLaw$World"), (cyZ, .boolean)] (va_A [] s.heap.size) s (wF [cU cyI cyB cyO ua ub up aw as' pa β υ ω sid τs n, [(bu, .inl (cyI, 8, .inl b))], cN rn sd166, cX cyI cyA cyT wa ks ts kr ta sa ra K mT Ns ζ κ Φ Ψ, [(nb, .inl (cyW, 9, .inr (.inr (.inr (.inr (fun j => (pb j).map (va_up pwa pc0 pv)))))))], cXs cyI cyA cyT (va_up pwa pc0 pv) (va_up pks pc0 u.1) (va_up pts pc0 u.2.1) (va_up pkr pc0 u.2.2.1) (va_up pta pc0 u.2.2.2.1) (va_up psa pc0 u.2.2.2.2.1) (va_up pra pc0 u.2.2.2.2.2) K mT Ns pζ2 pκ3 pΦ4 pΨ5 pc01]) H locs → lv_has ls 25 [(16, .int v163), (15, va_rf (Option.map ta v164)), (14, .int v165), (13, .int (nI mT)), (12, .int (-2000000097 : Int32)), (10, .ref pv), (9, .int l9), (8, .int l8), (7, .ref nb), (6, .ref wa), (5, .ref rn), (3, .ref ua), (2, .int l2), (0, .ref sb)] → W p l e room_1 s m #[Value.ref sb] below meth c H locs (c00 + 125) (s00 + 960) (lw_Z below #[Value.ref sb] s) (F0 m 264 ls []) := by
        clear hB hl ls locs H
        intro n9
        induction n9 with
        | zero => intro v163 v164 v165 sd166 H locs ls hL73; exact (loopM_z hL73).elim
        | succ n9 ih9 =>
          intro v163 v164 v165 sd166 H locs ls hL73 hB hl
          replace hL73 := loopM_s hL73
          obtain ⟨o168, hg74, hL73⟩ := hL73
          have hg74 : mL_law_L264 fu K mT Ns (nI mT) (-2000000097 : Int32) l9 l8 l2 τs n pa β υ ω sid b ζ κ Φ Ψ pb pζ2 pκ3 pΦ4 pΨ5 pc01 v163 v164 v165 sd166 = some o168 := hg74
          unfold mL_law_L264 at hg74
          refine lv_iload hx hb dL_law_264 (lv_at hl 0 rfl) ?_
          refine lv_iload hx hb dL_law_266 (lv_at hl 3 rfl) ?_
          refine lv_icmp_ge (tgt := 332) hx hb dL_law_268 (by decide) (fun c170 => ?_) (fun c170 => ?_)
          · replace hg74 := ite_t c170 hg74
            replace hL73 := el1_l (inj1 hg74) hL73
            obtain ⟨e0, e1, e2⟩ := inj3 hL73
            subst e0
            subst e1
            subst e2
            exact kE71 _ _ _ hB (lv_sub hl [1, 2, 4, 5, 6, 7, 8, 9, 10, 11, 12, 13] rfl)
          · replace hg74 := ite_f c170 hg74
            refine lv_aloadR hx hb dL_law_271 (lv_at hl 1 rfl) ?_
            cases v164 with
            | none =>
                replace hg74 := oN_n hg74
                refine lv_ifnullN (tgt := 332) hx hb dL_law_273 (by decide) ?_
                replace hL73 := el1_l (inj1 hg74) hL73
                obtain ⟨e0, e1, e2⟩ := inj3 hL73
                subst e0
                subst e1
                subst e2
                exact kE71 _ _ _ hB (lv_sub hl [1, 2, 4, 5, 6, 7, 8, 9, 10, 11, 12, 13] rfl)
            | some k171 =>
                replace hg74 := oN_s hg74
                refine lv_ifnull hx hb dL_law_273 ?_
                refine lv_aloadR hx hb dL_law_276 (lv_at hl 1 rfl) ?_
                -- k171
                replace hg74 := ob1_s hg74
                obtain ⟨_, h_k171, hg74⟩ := hg74
                replace h_k171 := gLt_s h_k171
                rw [show va_rf (Option.map ta (some k171)) = Value.ref (ta k171) from rfl]
                refine g_get (C := RX5) (T := TX5) (N := 7) hx hb hts hinX5 hown hK ((hB.perm (wperm (L' := [cX cyI cyA cyT wa ks ts kr ta sa ra K mT Ns ζ κ Φ Ψ, cU cyI cyB cyO ua ub up aw as' pa β υ ω sid τs n, [(bu, .inl (cyI, 8, .inl b))], cN rn sd166, [(nb, .inl (cyW, 9, .inr (.inr (.inr (.inr (fun j => (pb j).map (va_up pwa pc0 pv)))))))], cXs cyI cyA cyT (va_up pwa pc0 pv) (va_up pks pc0 u.1) (va_up pts pc0 u.2.1) (va_up pkr pc0 u.2.2.1) (va_up pta pc0 u.2.2.2.1) (va_up psa pc0 u.2.2.2.2.1) (va_up pra pc0 u.2.2.2.2.2) K mT Ns pζ2 pκ3 pΦ4 pΨ5 pc01]) [3, 0, 1, 2, 4, 5] (by decide +kernel) rfl rfl)).perm (cX_viewr cyI cyA cyT wa ks ts kr ta sa ra K mT Ns ζ κ Φ Ψ h_k171 _)) 0 rfl rfl 2 rfl hq2 rfl rfl dL_law_278 ?_
                refine lv_iconst (v := (5 : Int32)) hx hb dL_law_281 (by decide) ?_
                refine lv_icmp_eq (tgt := 332) hx hb dL_law_282 (by decide) (fun c173 => ?_) (fun c173 => ?_)
                · replace hg74 := ite_t c173 hg74
                  replace hL73 := el1_l (inj1 hg74) hL73
                  obtain ⟨e0, e1, e2⟩ := inj3 hL73
                  subst e0
                  subst e1
                  subst e2
                  exact kE71 _ _ _ hB (lv_sub hl [1, 2, 4, 5, 6, 7, 8, 9, 10, 11, 12, 13] rfl)
                · replace hg74 := ite_f c173 hg74
                  refine lv_aload hx hb dL_law_285 (lv_at hl 9 rfl) ?_
                  refine g_get (C := RX6) (T := TX6) (N := 6) hx hb hts hinX6 hown hK (hB.perm (wperm (L' := [cX cyI cyA cyT wa ks ts kr ta sa ra K mT Ns ζ κ Φ Ψ, cU cyI cyB cyO ua ub up aw as' pa β υ ω sid τs n, [(bu, .inl (cyI, 8, .inl b))], cN rn sd166, [(nb, .inl (cyW, 9, .inr (.inr (.inr (.inr (fun j => (pb j).map (va_up pwa pc0 pv)))))))], cXs cyI cyA cyT (va_up pwa pc0 pv) (va_up pks pc0 u.1) (va_up pts pc0 u.2.1) (va_up pkr pc0 u.2.2.1) (va_up pta pc0 u.2.2.2.1) (va_up psa pc0 u.2.2.2.2.1) (va_up pra pc0 u.2.2.2.2.2) K mT Ns pζ2 pκ3 pΦ4 pΨ5 pc01]) [3, 0, 1, 2, 4, 5] (by decide +kernel) rfl rfl)) 0 rfl rfl 5 rfl hq1 rfl rfl dL_law_287 ?_
                  refine lv_iload hx hb dL_law_290 (lv_at hl 0 rfl) ?_
                  replace hg74 := ob1_s hg74
                  obtain ⟨j174, e9, hg74⟩ := hg74
                  obtain ⟨h_j174, e9⟩ := hixn_s e9
                  refine g_aaldq hx hb hK (hB.perm (wperm (L' := [cX cyI cyA cyT wa ks ts kr ta sa ra K mT Ns ζ κ Φ Ψ, cU cyI cyB cyO ua ub up aw as' pa β υ ω sid τs n, [(bu, .inl (cyI, 8, .inl b))], cN rn sd166, [(nb, .inl (cyW, 9, .inr (.inr (.inr (.inr (fun j => (pb j).map (va_up pwa pc0 pv)))))))], cXs cyI cyA cyT (va_up pwa pc0 pv) (va_up pks pc0 u.1) (va_up pts pc0 u.2.1) (va_up pkr pc0 u.2.2.1) (va_up pta pc0 u.2.2.2.1) (va_up psa pc0 u.2.2.2.2.1) (va_up pra pc0 u.2.2.2.2.2) K mT Ns pζ2 pκ3 pΦ4 pΨ5 pc01]) [3, 0, 1, 2, 4, 5] (by decide +kernel) rfl rfl)) 2 4 rfl rfl e9 dL_law_292 ?_
                  refine g_get (C := RX5) (T := TX5) (N := 7) hx hb hts hinX5 hown hK ((hB.perm (wperm (L' := [cX cyI cyA cyT wa ks ts kr ta sa ra K mT Ns ζ κ Φ Ψ, cU cyI cyB cyO ua ub up aw as' pa β υ ω sid τs n, [(bu, .inl (cyI, 8, .inl b))], cN rn sd166, [(nb, .inl (cyW, 9, .inr (.inr (.inr (.inr (fun j => (pb j).map (va_up pwa pc0 pv)))))))], cXs cyI cyA cyT (va_up pwa pc0 pv) (va_up pks pc0 u.1) (va_up pts pc0 u.2.1) (va_up pkr pc0 u.2.2.1) (va_up pta pc0 u.2.2.2.1) (va_up psa pc0 u.2.2.2.2.1) (va_up pra pc0 u.2.2.2.2.2) K mT Ns pζ2 pκ3 pΦ4 pΨ5 pc01]) [3, 0, 1, 2, 4, 5] (by decide +kernel) rfl rfl)).perm (cX_viewr cyI cyA cyT wa ks ts kr ta sa ra K mT Ns ζ κ Φ Ψ h_j174 _)) 0 rfl rfl 2 rfl hq2 rfl rfl dL_law_293 ?_
                  refine lv_iconst (v := (5 : Int32)) hx hb dL_law_296 (by decide) ?_
                  replace hg74 := ob3_s hg74
                  obtain ⟨v175, v176, sd177, hJ178, hg74⟩ := hg74
                  have kJ179 : ∀ (H : Heap) (locs : List Loc) (ls : Array Slot), Bd (dC, dI) [(cyI, .int), (cyB, .byte), (cyO, .object "UndoJourneys$World"), (cyA, .array .int), (cyT, .object "UndoJourneysLaw$Trip"), (cyW, .object "UndoJourneysLaw$World"), (cyZ, .boolean)] (va_A [] s.heap.size) s (wF [cU cyI cyB cyO ua ub up aw as' pa β υ ω sid τs n, [(bu, .inl (cyI, 8, .inl b))], cN rn sd177, cX cyI cyA cyT wa ks ts kr ta sa ra K mT Ns ζ κ Φ Ψ, [(nb, .inl (cyW, 9, .inr (.inr (.inr (.inr (fun j => (pb j).map (va_up pwa pc0 pv)))))))], cXs cyI cyA cyT (va_up pwa pc0 pv) (va_up pks pc0 u.1) (va_up pts pc0 u.2.1) (va_up pkr pc0 u.2.2.1) (va_up pta pc0 u.2.2.2.1) (va_up psa pc0 u.2.2.2.2.1) (va_up pra pc0 u.2.2.2.2.2) K mT Ns pζ2 pκ3 pΦ4 pΨ5 pc01]) H locs → lv_has ls 25 [(16, .int v163), (15, va_rf (Option.map ta v175)), (14, .int v176), (13, .int (nI mT)), (12, .int (-2000000097 : Int32)), (10, .ref pv), (9, .int l9), (8, .int l8), (7, .ref nb), (6, .ref wa), (5, .ref rn), (3, .ref ua), (2, .int l2), (0, .ref sb)] → W p l e room_1 s m #[Value.ref sb] below meth c H locs (c00 + 125) (s00 + 960) (lw_Z below #[Value.ref sb] s) (F0 m 326 ls []) := by
                    clear hB hl ls locs H
                    intro H locs ls hB hl
                    refine lv_iincS (v := (v163 + (1 : Int32))) (l1 := [(16, .int v163)]) (l2 := [(14, .int v176), (13, .int (nI mT)), (12, .int (-2000000097 : Int32)), (10, .ref pv), (9, .int l9), (8, .int l8), (7, .ref nb), (6, .ref wa), (5, .ref rn), (3, .ref ua), (2, .int l2), (0, .ref sb)]) (j := 15) (o := Option.map ta v175) (lv' := [(16, .int (v163 + (1 : Int32))), (15, va_rf (Option.map ta v175)), (14, .int v176), (13, .int (nI mT)), (12, .int (-2000000097 : Int32)), (10, .ref pv), (9, .int l9), (8, .int l8), (7, .ref nb), (6, .ref wa), (5, .ref rn), (3, .ref ua), (2, .int l2), (0, .ref sb)]) hx hb dL_law_326 hl (k := 0) rfl rfl (by decide) (by decide) rfl ?_
                    clear hl ls
                    intro ls hl
                    refine lv_goto (tgt := 264) hx hb dL_law_329 (by decide) ?_
                    replace hL73 := el1_r (inj1 hg74) hL73
                    exact ih9 _ _ _ _ _ _ _ hL73 hB (lv_sub hl [0, 1, 2, 3, 4, 5, 6, 7, 8, 9, 10, 11, 12, 13] rfl)
                  refine lv_icmp_ne (tgt := 326) hx hb dL_law_297 (by decide) (fun c180 => ?_) (fun c180 => ?_)
                  · replace hJ178 := ite_f c180 hJ178
                    obtain ⟨e0, e1, e2⟩ := inj3 hJ178
                    subst e0
                    subst e1
                    subst e2
                    exact kJ179 _ _ _ hB (lv_sub hl [0, 1, 2, 3, 4, 5, 6, 7, 8, 9, 10, 11, 12, 13] rfl)
                  · replace hJ178 := ite_t c180 hJ178
                    refine lv_aload hx hb dL_law_300 (lv_at hl 10 rfl) ?_
                    refine lv_iconst (v := (2 : Int32)) hx hb dL_law_302 (by decide) ?_
                    replace hJ178 := ob2_s hJ178
                    obtain ⟨r181, sd182, hc, hJ178⟩ := hJ178
                    refine e_Vi (S := Unit) (As := [.int (2 : Int32)]) (rest := []) (wc := cN rn sd166) (wr := (wF [cU cyI cyB cyO ua ub up aw as' pa β υ ω sid τs n, [(bu, .inl (cyI, 8, .inl b))], cX cyI cyA cyT wa ks ts kr ta sa ra K mT Ns ζ κ Φ Ψ, [(nb, .inl (cyW, 9, .inr (.inr (.inr (.inr (fun j => (pb j).map (va_up pwa pc0 pv)))))))], cXs cyI cyA cyT (va_up pwa pc0 pv) (va_up pks pc0 u.1) (va_up pts pc0 u.2.1) (va_up pkr pc0 u.2.2.1) (va_up pta pc0 u.2.2.2.1) (va_up psa pc0 u.2.2.2.2.1) (va_up pra pc0 u.2.2.2.2.2) K mT Ns pζ2 pκ3 pΦ4 pΨ5 pc01])) (w1 := fun _ => cN rn sd182) ⟨hx, hb, hml, hown, hts⟩ (kX4_below l dC dI rn H.size hc) (cwV 1 hts (gv_X4_below_107 hgb) rfl rfl rfl (by decide +kernel) ⟨(Nat.le_of_ble_eq_true rfl), (Nat.le_of_ble_eq_true rfl)⟩) (pcut_pre (hB.perm (wperm (L' := [cN rn sd166, cU cyI cyB cyO ua ub up aw as' pa β υ ω sid τs n, [(bu, .inl (cyI, 8, .inl b))], cX cyI cyA cyT wa ks ts kr ta sa ra K mT Ns ζ κ Φ Ψ, [(nb, .inl (cyW, 9, .inr (.inr (.inr (.inr (fun j => (pb j).map (va_up pwa pc0 pv)))))))], cXs cyI cyA cyT (va_up pwa pc0 pv) (va_up pks pc0 u.1) (va_up pts pc0 u.2.1) (va_up pkr pc0 u.2.2.1) (va_up pta pc0 u.2.2.2.1) (va_up psa pc0 u.2.2.2.2.1) (va_up pra pc0 u.2.2.2.2.2) K mT Ns pζ2 pκ3 pΦ4 pΨ5 pc01]) [2, 0, 1, 3, 4, 5] (by decide +kernel) rfl rfl)) (hK.sub [] rfl) (.ref rn :: [.int (2 : Int32)])) hB hA (g_recv (ci := 4) hK (hB.perm (wperm (L' := [cN rn sd166, cU cyI cyB cyO ua ub up aw as' pa β υ ω sid τs n, [(bu, .inl (cyI, 8, .inl b))], cX cyI cyA cyT wa ks ts kr ta sa ra K mT Ns ζ κ Φ Ψ, [(nb, .inl (cyW, 9, .inr (.inr (.inr (.inr (fun j => (pb j).map (va_up pwa pc0 pv)))))))], cXs cyI cyA cyT (va_up pwa pc0 pv) (va_up pks pc0 u.1) (va_up pts pc0 u.2.1) (va_up pkr pc0 u.2.2.1) (va_up pta pc0 u.2.2.2.1) (va_up psa pc0 u.2.2.2.2.1) (va_up pra pc0 u.2.2.2.2.2) K mT Ns pζ2 pκ3 pΦ4 pΨ5 pc01]) [2, 0, 1, 3, 4, 5] (by decide +kernel) rfl rfl)) 0 rfl rfl rfl) (wperm (L' := [cN rn sd166, cU cyI cyB cyO ua ub up aw as' pa β υ ω sid τs n, [(bu, .inl (cyI, 8, .inl b))], cX cyI cyA cyT wa ks ts kr ta sa ra K mT Ns ζ κ Φ Ψ, [(nb, .inl (cyW, 9, .inr (.inr (.inr (.inr (fun j => (pb j).map (va_up pwa pc0 pv)))))))], cXs cyI cyA cyT (va_up pwa pc0 pv) (va_up pks pc0 u.1) (va_up pts pc0 u.2.1) (va_up pkr pc0 u.2.2.1) (va_up pta pc0 u.2.2.2.1) (va_up psa pc0 u.2.2.2.2.1) (va_up pra pc0 u.2.2.2.2.2) K mT Ns pζ2 pκ3 pΦ4 pΨ5 pc01]) [2, 0, 1, 3, 4, 5] (by decide +kernel) rfl rfl) rfl hl.1 rfl (Nat.le_of_ble_eq_true rfl) dL_law_303 ⟨Nat.le_trans (m := 500000) (by show _ ≤ 500000; omega) rm_c, Nat.le_trans (m := 6000000) (by show _ ≤ 6000000; omega) rm_s⟩ ?_
                    clear hB locs H
                    intro r9 _ H locs hr9 hB
                    rw [hr9]
                    replace hB := hB.perm wF_un1
                    replace hB := hB.perm (wperm (L' := [cU cyI cyB cyO ua ub up aw as' pa β υ ω sid τs n, [(bu, .inl (cyI, 8, .inl b))], cN rn sd182, cX cyI cyA cyT wa ks ts kr ta sa ra K mT Ns ζ κ Φ Ψ, [(nb, .inl (cyW, 9, .inr (.inr (.inr (.inr (fun j => (pb j).map (va_up pwa pc0 pv)))))))], cXs cyI cyA cyT (va_up pwa pc0 pv) (va_up pks pc0 u.1) (va_up pts pc0 u.2.1) (va_up pkr pc0 u.2.2.1) (va_up pta pc0 u.2.2.2.1) (va_up psa pc0 u.2.2.2.2.1) (va_up pra pc0 u.2.2.2.2.2) K mT Ns pζ2 pκ3 pΦ4 pΨ5 pc01]) [1, 2, 0, 3, 4, 5] (by decide +kernel) rfl rfl)
                    refine lv_if_ne (tgt := 312) hx hb dL_law_306 (by decide) (fun c183 => ?_) (fun c183 => ?_)
                    · replace hJ178 := ite_f c183 hJ178
                      refine lv_iload hx hb dL_law_312 (lv_at hl 0 rfl) ?_
                      refine lv_istore (lv' := [(14, .int v163), (16, .int v163), (15, va_rf (Option.map ta (some k171))), (13, .int (nI mT)), (12, .int (-2000000097 : Int32)), (10, .ref pv), (9, .int l9), (8, .int l8), (7, .ref nb), (6, .ref wa), (5, .ref rn), (3, .ref ua), (2, .int l2), (0, .ref sb)]) hx hb dL_law_314 hl (by decide) rfl ?_
                      clear hl ls
                      intro ls hl
                      refine lv_aload hx hb dL_law_316 (lv_at hl 9 rfl) ?_
                      refine g_get (C := RX6) (T := TX6) (N := 6) hx hb hts hinX6 hown hK (hB.perm (wperm (L' := [cX cyI cyA cyT wa ks ts kr ta sa ra K mT Ns ζ κ Φ Ψ, cU cyI cyB cyO ua ub up aw as' pa β υ ω sid τs n, [(bu, .inl (cyI, 8, .inl b))], cN rn sd182, [(nb, .inl (cyW, 9, .inr (.inr (.inr (.inr (fun j => (pb j).map (va_up pwa pc0 pv)))))))], cXs cyI cyA cyT (va_up pwa pc0 pv) (va_up pks pc0 u.1) (va_up pts pc0 u.2.1) (va_up pkr pc0 u.2.2.1) (va_up pta pc0 u.2.2.2.1) (va_up psa pc0 u.2.2.2.2.1) (va_up pra pc0 u.2.2.2.2.2) K mT Ns pζ2 pκ3 pΦ4 pΨ5 pc01]) [3, 0, 1, 2, 4, 5] (by decide +kernel) rfl rfl)) 0 rfl rfl 5 rfl hq1 rfl rfl dL_law_318 ?_
                      refine lv_iload hx hb dL_law_321 (lv_at hl 1 rfl) ?_
                      replace hJ178 := ob1_s hJ178
                      obtain ⟨j184, e9, hJ178⟩ := hJ178
                      obtain ⟨h_j184, e9⟩ := hixn_s e9
                      refine g_aaldq hx hb hK (hB.perm (wperm (L' := [cX cyI cyA cyT wa ks ts kr ta sa ra K mT Ns ζ κ Φ Ψ, cU cyI cyB cyO ua ub up aw as' pa β υ ω sid τs n, [(bu, .inl (cyI, 8, .inl b))], cN rn sd182, [(nb, .inl (cyW, 9, .inr (.inr (.inr (.inr (fun j => (pb j).map (va_up pwa pc0 pv)))))))], cXs cyI cyA cyT (va_up pwa pc0 pv) (va_up pks pc0 u.1) (va_up pts pc0 u.2.1) (va_up pkr pc0 u.2.2.1) (va_up pta pc0 u.2.2.2.1) (va_up psa pc0 u.2.2.2.2.1) (va_up pra pc0 u.2.2.2.2.2) K mT Ns pζ2 pκ3 pΦ4 pΨ5 pc01]) [3, 0, 1, 2, 4, 5] (by decide +kernel) rfl rfl)) 2 4 rfl rfl e9 dL_law_323 ?_
                      refine lv_astore (lv' := [(15, .ref (ta j184)), (14, .int v163), (16, .int v163), (13, .int (nI mT)), (12, .int (-2000000097 : Int32)), (10, .ref pv), (9, .int l9), (8, .int l8), (7, .ref nb), (6, .ref wa), (5, .ref rn), (3, .ref ua), (2, .int l2), (0, .ref sb)]) hx hb dL_law_324 hl (by decide) rfl ?_
                      clear hl ls
                      intro ls hl
                      obtain ⟨e0, e1, e2⟩ := inj3 hJ178
                      subst e0
                      subst e1
                      subst e2
                      exact kJ179 _ _ _ hB (lv_sub hl [2, 0, 1, 3, 4, 5, 6, 7, 8, 9, 10, 11, 12, 13] rfl)
                    · replace hJ178 := ite_t c183 hJ178
                      refine lv_goto (tgt := 326) hx hb dL_law_309 (by decide) ?_
                      obtain ⟨e0, e1, e2⟩ := inj3 hJ178
                      subst e0
                      subst e1
                      subst e2
                      exact kJ179 _ _ _ hB (lv_sub hl [0, 1, 2, 3, 4, 5, 6, 7, 8, 9, 10, 11, 12, 13] rfl)
      exact key72 10 _ _ _ _ _ _ _ hL73 hB (lv_sub hl [0, 1, 2, 3, 4, 5, 6, 7, 8, 9, 10, 11, 12, 13] rfl)
    refine lv_icmp_ge (tgt := 258) hx hb dL_law_244 (by decide) (fun c24 => ?_) (fun c24 => ?_)
    · replace hJ22 := ite_t c24 hJ22
      refine lv_null hx hb dL_law_258 ?_
      have e0 := inj1 hJ22
      subst e0
      exact kJ23 _ _ _ hB (lv_sub hl [0, 1, 2, 3, 4, 5, 6, 7, 8, 9, 10, 11] rfl)
    · replace hJ22 := ite_f c24 hJ22
      refine lv_aload hx hb dL_law_247 (lv_at hl 7 rfl) ?_
      refine g_get (C := RX6) (T := TX6) (N := 6) hx hb hts hinX6 hown hK (hB.perm (wperm (L' := [cX cyI cyA cyT wa ks ts kr ta sa ra K mT Ns ζ κ Φ Ψ, cU cyI cyB cyO ua ub up aw as' pa β υ ω sid τs n, [(bu, .inl (cyI, 8, .inl b))], cN rn sd20, [(nb, .inl (cyW, 9, .inr (.inr (.inr (.inr (fun j => (pb j).map (va_up pwa pc0 pv)))))))], cXs cyI cyA cyT (va_up pwa pc0 pv) (va_up pks pc0 u.1) (va_up pts pc0 u.2.1) (va_up pkr pc0 u.2.2.1) (va_up pta pc0 u.2.2.2.1) (va_up psa pc0 u.2.2.2.2.1) (va_up pra pc0 u.2.2.2.2.2) K mT Ns pζ2 pκ3 pΦ4 pΨ5 pc01]) [3, 0, 1, 2, 4, 5] (by decide +kernel) rfl rfl)) 0 rfl rfl 5 rfl hq1 rfl rfl dL_law_249 ?_
      refine lv_iload hx hb dL_law_252 (lv_at hl 0 rfl) ?_
      replace hJ22 := ob1_s hJ22
      obtain ⟨j25, e9, hJ22⟩ := hJ22
      obtain ⟨h_j25, e9⟩ := hixn_s e9
      refine g_aaldq hx hb hK (hB.perm (wperm (L' := [cX cyI cyA cyT wa ks ts kr ta sa ra K mT Ns ζ κ Φ Ψ, cU cyI cyB cyO ua ub up aw as' pa β υ ω sid τs n, [(bu, .inl (cyI, 8, .inl b))], cN rn sd20, [(nb, .inl (cyW, 9, .inr (.inr (.inr (.inr (fun j => (pb j).map (va_up pwa pc0 pv)))))))], cXs cyI cyA cyT (va_up pwa pc0 pv) (va_up pks pc0 u.1) (va_up pts pc0 u.2.1) (va_up pkr pc0 u.2.2.1) (va_up pta pc0 u.2.2.2.1) (va_up psa pc0 u.2.2.2.2.1) (va_up pra pc0 u.2.2.2.2.2) K mT Ns pζ2 pκ3 pΦ4 pΨ5 pc01]) [3, 0, 1, 2, 4, 5] (by decide +kernel) rfl rfl)) 2 4 rfl rfl e9 dL_law_254 ?_
      refine lv_goto (tgt := 259) hx hb dL_law_255 (by decide) ?_
      have e0 := inj1 hJ22
      subst e0
      exact kJ23 _ _ _ hB (lv_sub hl [0, 1, 2, 3, 4, 5, 6, 7, 8, 9, 10, 11] rfl)
  replace hJ13 := ob1_s hJ13
  obtain ⟨t15, hD16, hJ13⟩ := hJ13
  have kTt15 : t15 = true → ∀ (H : Heap) (locs : List Loc), Bd (dC, dI) [(cyI, .int), (cyB, .byte), (cyO, .object "UndoJourneys$World"), (cyA, .array .int), (cyT, .object "UndoJourneysLaw$Trip"), (cyW, .object "UndoJourneysLaw$World"), (cyZ, .boolean)] (va_A [] s.heap.size) s (wF [cU cyI cyB cyO ua ub up aw as' pa β υ ω sid τs n, [(bu, .inl (cyI, 8, .inl b))], cN rn sd8, cX cyI cyA cyT wa ks ts kr ta sa ra K mT Ns ζ κ Φ Ψ, [(nb, .inl (cyW, 9, .inr (.inr (.inr (.inr (fun j => (pb j).map (va_up pwa pc0 pv)))))))], cXs cyI cyA cyT (va_up pwa pc0 pv) (va_up pks pc0 u.1) (va_up pts pc0 u.2.1) (va_up pkr pc0 u.2.2.1) (va_up pta pc0 u.2.2.2.1) (va_up psa pc0 u.2.2.2.2.1) (va_up pra pc0 u.2.2.2.2.2) K mT Ns pζ2 pκ3 pΦ4 pΨ5 pc01]) H locs → W p l e room_1 s m #[Value.ref sb] below meth c H locs (c00 + 125) (s00 + 960) (lw_Z below #[Value.ref sb] s) (F0 m 229 ls [.int (nI mT), .ref rn]) := by
    intro ht H locs hB
    have hJ13 := cnd_t ht hJ13
    refine lv_iconst (v := (1 : Int32)) hx hb dL_law_229 (by decide) ?_
    refine lv_goto (tgt := 234) hx hb dL_law_230 (by decide) ?_
    have e0 := inj1 hJ13
    subst e0
    exact kJ14 (Or.inr rfl) _ _ _ hB (lv_sub hl [0, 1, 3, 4, 5, 6, 7, 8, 9, 10, 11] rfl)
  have kFt15 : t15 = false → ∀ (H : Heap) (locs : List Loc), Bd (dC, dI) [(cyI, .int), (cyB, .byte), (cyO, .object "UndoJourneys$World"), (cyA, .array .int), (cyT, .object "UndoJourneysLaw$Trip"), (cyW, .object "UndoJourneysLaw$World"), (cyZ, .boolean)] (va_A [] s.heap.size) s (wF [cU cyI cyB cyO ua ub up aw as' pa β υ ω sid τs n, [(bu, .inl (cyI, 8, .inl b))], cN rn sd8, cX cyI cyA cyT wa ks ts kr ta sa ra K mT Ns ζ κ Φ Ψ, [(nb, .inl (cyW, 9, .inr (.inr (.inr (.inr (fun j => (pb j).map (va_up pwa pc0 pv)))))))], cXs cyI cyA cyT (va_up pwa pc0 pv) (va_up pks pc0 u.1) (va_up pts pc0 u.2.1) (va_up pkr pc0 u.2.2.1) (va_up pta pc0 u.2.2.2.1) (va_up psa pc0 u.2.2.2.2.1) (va_up pra pc0 u.2.2.2.2.2) K mT Ns pζ2 pκ3 pΦ4 pΨ5 pc01]) H locs → W p l e room_1 s m #[Value.ref sb] below meth c H locs (c00 + 125) (s00 + 960) (lw_Z below #[Value.ref sb] s) (F0 m 233 ls [.int (nI mT), .ref rn]) := by
    intro ht H locs hB
    have hJ13 := cnd_f ht hJ13
    refine lv_iconst (v := (0 : Int32)) hx hb dL_law_233 (by decide) ?_
    have e0 := inj1 hJ13
    subst e0
    exact kJ14 (Or.inl rfl) _ _ _ hB (lv_sub hl [0, 1, 3, 4, 5, 6, 7, 8, 9, 10, 11] rfl)
  refine lv_if_eq (tgt := 229) hx hb dL_law_221 (by decide) (fun c17 => ?_) (fun c17 => ?_)
  · replace hD16 := ite_t c17 hD16
    have e0 := inj1 hD16
    exact kTt15 e0.symm _ _ hB
  · replace hD16 := ite_f c17 hD16
    refine lv_iload hx hb dL_law_224 (lv_at hl 0 rfl) ?_
    refine lv_if_ne (tgt := 233) hx hb dL_law_226 (by decide) (fun c18 => ?_) (fun c18 => ?_)
    · replace hD16 := ite_f c18 hD16
      have e0 := inj1 hD16
      exact kFt15 e0.symm _ _ hB
    · replace hD16 := ite_t c18 hD16
      have e0 := inj1 hD16
      exact kTt15 e0.symm _ _ hB
