/-! the law from 611 to 954 -/
set_option maxHeartbeats 16000000 in
set_option maxRecDepth 100000 in
theorem kR611 {p : Program} {l : Launch} {e : Env} {s : State} {m : MethodId} {below : List Frame} {meth : Method} {c : Code} {sb L : Nat} {xs : Nat → Int32} {dC : Nat → ClassId} {dI : Nat → Nat → Nat} {cyI cyB cyO cyA cyT cyW cyZ : ClassId} {kS : Nat → Nat} (hx : p.tables.exec = Jvm.exec) (hb : c.code = cL_law) (hml : c.maxLocals = 25) (hown : s.vm.findClass RL = some m.cls) (hts : ∀ w ∈ lw_tbl, w.before #[Value.ref sb] s = true) (hX : va_X sb L xs s s.heap) (hbl : sb < s.heap.size) (hbA : ¬ va_A [] s.heap.size sb) (hl0 : l.stackTraces = false) (hK : va_K (dC, dI) vwCl [(cyI, .int), (cyB, .byte), (cyO, .object "UndoJourneys$World"), (cyA, .array .int), (cyT, .object "UndoJourneysLaw$Trip"), (cyW, .object "UndoJourneysLaw$World"), (cyZ, .boolean)] s) (hEV : EV kS (va_A [] s.heap.size) s s.heap) (hr : meth.sig.returnType = ret) (hlocks : meth.locks = false) {ua ub up bu rn nb wa ks ts : Nat} {aw : Nat → Nat → Nat} {kr ta sa : PA} {ra : Nat → PA} {K mT : Nat} {Ns : PA} (hKn : K < 7) (hmT : mT < 9) (hNs : ∀ k, k < mT → Ns k < 10) {as' : Nat → Nat → Nat} {pwa : PA} {pks : PA} {pts : PA} {pkr : Nat → PA} {pta : Nat → PA} {psa : Nat → PA} {pra : Nat → Nat → PA} {pv : Nat} {fu : Nat} {l16 : Int32} {l15 : (Option Nat)} {l14 : Int32} {l12 : Int32} {l9 : Int32} {l8 : Int32} {l2 : Int32} {τs : WS} {n : Nat} {pa : PA} {β : FS} {υ : MS} {ω : WS} {sid : PA} {b : FS} {sd : MS} {ζ : MS} {κ : MS} {Φ : WS} {Ψ : WS} {pb : (Nat → Option Nat)} {pζ : WS} {pκ : WS} {pΦ : (Nat → WS)} {pΨ : (Nat → WS)} {pc0 : Nat} {o1 : Int32} {o11 : Int32} {pa_ : PA} {υ_ : MS} {ω_ : WS} {sid_ : PA} {Φ_ : WS} {Ψ_ : WS} (hf : mL_law_R611 fu K mT Ns l16 l15 l14 l12 l9 l8 l2 τs n pa β υ ω sid b sd ζ κ Φ Ψ pb pζ pκ pΦ pΨ pc0 = some (o1, o11, pa_, υ_, ω_, sid_, Φ_, Ψ_)) {H : Heap} {locs : List Loc} {ls : Array Slot} {c00 s00 : Nat} (hc0 : c00 + 2 ≤ 500000) (hs0 : s00 + 12 ≤ 6000000) (hB : Bd (dC, dI) [(cyI, .int), (cyB, .byte), (cyO, .object "UndoJourneys$World"), (cyA, .array .int), (cyT, .object "UndoJourneysLaw$Trip"), (cyW, .object "UndoJourneysLaw$World"), (cyZ, .boolean)] (va_A [] s.heap.size) s (wF [cU cyI cyB cyO ua ub up aw as' pa β υ ω sid τs n, [(bu, .inl (cyI, 8, .inl b))], cN rn sd, cX cyI cyA cyT wa ks ts kr ta sa ra K mT Ns ζ κ Φ Ψ, [(nb, .inl (cyW, 9, .inr (.inr (.inr (.inr (fun j => (pb j).map pwa))))))], cXs cyI cyA cyT pwa pks pts pkr pta psa pra K mT Ns pζ pκ pΦ pΨ pc0]) H locs) (hl : lv_has ls 25 [(16, .int l16), (15, va_rf (Option.map ta l15)), (14, .int l14), (12, .int l12), (10, .ref pv), (9, .int l9), (8, .int l8), (7, .ref nb), (6, .ref wa), (5, .ref rn), (3, .ref ua), (2, .int l2), (0, .ref sb)]) (nxt : ∀ (H : Heap) (locs : List Loc) (ls : Array Slot), Bd (dC, dI) [(cyI, .int), (cyB, .byte), (cyO, .object "UndoJourneys$World"), (cyA, .array .int), (cyT, .object "UndoJourneysLaw$Trip"), (cyW, .object "UndoJourneysLaw$World"), (cyZ, .boolean)] (va_A [] s.heap.size) s (wF [cU cyI cyB cyO ua ub up aw as' pa_ β υ_ ω_ sid_ τs n, [(bu, .inl (cyI, 8, .inl b))], cN rn sd, cX cyI cyA cyT wa ks ts kr ta sa ra K mT Ns ζ κ Φ_ Ψ_, [(nb, .inl (cyW, 9, .inr (.inr (.inr (.inr (fun j => (pb j).map pwa))))))], cXs cyI cyA cyT pwa pks pts pkr pta psa pra K mT Ns pζ pκ pΦ pΨ pc0]) H locs → lv_has ls 25 [(11, .int o11), (10, .ref pv), (9, .int l9), (8, .int l8), (7, .ref nb), (6, .ref wa), (5, .ref rn), (3, .ref ua), (2, .int l2), (1, .int o1), (0, .ref sb)] → W p l e room_1 s m #[Value.ref sb] below meth c H locs (c00 + 2) (s00 + 12) (lw_Z below #[Value.ref sb] s) (F0 m 954 ls [])) : W p l e room_1 s m #[Value.ref sb] below meth c H locs c00 s00 (lw_Z below #[Value.ref sb] s) (F0 m 611 ls []) := by
  obtain ⟨hEX, hNC, hJ, hNw, hNw3, hAOw, hN6, hN5, hAOT, hAOW, hAOA, hCl⟩ := id hEV
  have hA : ∀ q : Nat, s.heap.size ≤ q → va_A [] s.heap.size q := fun q h => Or.inr h
  have hgb : ∀ w ∈ gw_tbl, w ∈ lw_tbl := gw_in
  have hq0 : (Cond.fieldLink RL 148 "UndoJourneysLaw$Trip" "steps" "[[I").before _ s = true := hts _ (tb2 83 rfl)
  have hinX5 : ∀ w ∈ wsX50, w ∈ lw_tbl := t_wsX50
  show W p l e room_1 s m #[Value.ref sb] below meth c H locs (c00 + 0) (s00 + 0) (lw_Z below #[Value.ref sb] s) (F0 m 611 ls [])
  have hrc_writeOff : rmL_writeOff.cells = 2 := rfl
  have hrs_writeOff : rmL_writeOff.slots = 12 := rfl
  unfold mL_law_R611 at hf
  refine lv_iload hx hb dL_law_611 (lv_at hl 0 rfl) ?_
  refine lv_istore (lv' := [(11, .int l16), (16, .int l16), (15, va_rf (Option.map ta l15)), (14, .int l14), (12, .int l12), (10, .ref pv), (9, .int l9), (8, .int l8), (7, .ref nb), (6, .ref wa), (5, .ref rn), (3, .ref ua), (2, .int l2), (0, .ref sb)]) hx hb dL_law_613 hl (by decide) rfl ?_
  clear hl ls
  intro ls hl
  refine lv_iload hx hb dL_law_615 (lv_at hl 1 rfl) ?_
  replace hf := ob3_s hf
  obtain ⟨v1, Φ2, Ψ3, hJ4, hf⟩ := hf
  have kJ5 : ∀ (H : Heap) (locs : List Loc) (ls : Array Slot), Bd (dC, dI) [(cyI, .int), (cyB, .byte), (cyO, .object "UndoJourneys$World"), (cyA, .array .int), (cyT, .object "UndoJourneysLaw$Trip"), (cyW, .object "UndoJourneysLaw$World"), (cyZ, .boolean)] (va_A [] s.heap.size) s (wF [cU cyI cyB cyO ua ub up aw as' pa β υ ω sid τs n, [(bu, .inl (cyI, 8, .inl b))], cN rn sd, cX cyI cyA cyT wa ks ts kr ta sa ra K mT Ns ζ κ Φ2 Ψ3, [(nb, .inl (cyW, 9, .inr (.inr (.inr (.inr (fun j => (pb j).map pwa))))))], cXs cyI cyA cyT pwa pks pts pkr pta psa pra K mT Ns pζ pκ pΦ pΨ pc0]) H locs → lv_has ls 25 [(11, .int l16), (14, .int l14), (12, .int v1), (10, .ref pv), (9, .int l9), (8, .int l8), (7, .ref nb), (6, .ref wa), (5, .ref rn), (3, .ref ua), (2, .int l2), (0, .ref sb)] → W p l e room_1 s m #[Value.ref sb] below meth c H locs (c00 + 0) (s00 + 0) (lw_Z below #[Value.ref sb] s) (F0 m 644 ls []) := by
    clear hB hl ls locs H
    intro H locs ls hB hl
    refine lv_aload_n hx hb dL_law_644 rfl (lv_at hl 9 rfl) ?_
    refine lv_iload hx hb dL_law_645 (lv_at hl 1 rfl) ?_
    replace hf := ob1_s hf
    obtain ⟨o18, hc, hf⟩ := hf
    obtain ⟨hc, hE9⟩ := hEl_s hc
    replace hf := ob1_s hf
    obtain ⟨r19, er9, hf⟩ := hf
    replace er9 := inj1 er9
    replace hf := ob1_s hf
    obtain ⟨pa20, epa20, hf⟩ := hf
    replace epa20 := inj1 epa20
    replace hf := ob1_s hf
    obtain ⟨υ21, eυ21, hf⟩ := hf
    replace eυ21 := inj1 eυ21
    replace hf := ob1_s hf
    obtain ⟨ω22, eω22, hf⟩ := hf
    replace eω22 := inj1 eω22
    replace hf := ob1_s hf
    obtain ⟨sid23, esid23, hf⟩ := hf
    replace esid23 := inj1 esid23
    refine e_Wi (S := Unit) (As := [.ref ua, .int l14]) (rest := []) (wc := cU cyI cyB cyO ua ub up aw as' pa β υ ω sid τs n) (wr := (wF [[(bu, .inl (cyI, 8, .inl b))], cN rn sd, cX cyI cyA cyT wa ks ts kr ta sa ra K mT Ns ζ κ Φ2 Ψ3, [(nb, .inl (cyW, 9, .inr (.inr (.inr (.inr (fun j => (pb j).map pwa))))))], cXs cyI cyA cyT pwa pks pts pkr pta psa pra K mT Ns pζ pκ pΦ pΨ pc0])) (w1 := fun _ => xU (cU cyI cyB cyO ua ub up aw as' pa β υ ω sid τs n) (fun x => (cU cyI cyB cyO ua ub up aw as' (x.2.1) β (x.2.2.1) (x.2.2.2.1) (x.2.2.2.2) τs n)) o18) ⟨hx, hb, hml, hown, hts⟩ (kL_writeOff l hl0 dC dI cyI cyB cyO cyA cyT cyW cyZ ua ub up aw as' kS H.size hc hE9) (vx_cwSW 2 hts (gv_L_writeOff_239 hgb) rfl rfl rfl (by decide +kernel) ⟨(Nat.le_of_ble_eq_true rfl), (Nat.le_of_ble_eq_true rfl)⟩) (epre_left hEV (hB.perm (wperm (L' := [cU cyI cyB cyO ua ub up aw as' pa β υ ω sid τs n, [(bu, .inl (cyI, 8, .inl b))], cN rn sd, cX cyI cyA cyT wa ks ts kr ta sa ra K mT Ns ζ κ Φ2 Ψ3, [(nb, .inl (cyW, 9, .inr (.inr (.inr (.inr (fun j => (pb j).map pwa))))))], cXs cyI cyA cyT pwa pks pts pkr pta psa pra K mT Ns pζ pκ pΦ pΨ pc0]) [0, 1, 2, 3, 4, 5] (by decide +kernel) rfl rfl)) hA hK [.ref ua, .int l14]) hB hA (wperm (L' := [cU cyI cyB cyO ua ub up aw as' pa β υ ω sid τs n, [(bu, .inl (cyI, 8, .inl b))], cN rn sd, cX cyI cyA cyT wa ks ts kr ta sa ra K mT Ns ζ κ Φ2 Ψ3, [(nb, .inl (cyW, 9, .inr (.inr (.inr (.inr (fun j => (pb j).map pwa))))))], cXs cyI cyA cyT pwa pks pts pkr pta psa pra K mT Ns pζ pκ pΦ pΨ pc0]) [0, 1, 2, 3, 4, 5] (by decide +kernel) rfl rfl) rfl hl.1 rfl (Nat.le_of_ble_eq_true rfl) dL_law_647 ⟨Nat.le_trans (m := 500000) (by show _ ≤ 500000; omega) rm_c, Nat.le_trans (m := 6000000) (by show _ ≤ 6000000; omega) rm_s⟩ ?_
    clear hB locs H
    intro r9 _ H locs hr9 hB
    rw [hr9, er9]
    have e9 : xU (cU cyI cyB cyO ua ub up aw as' pa β υ ω sid τs n) (fun x => (cU cyI cyB cyO ua ub up aw as' (x.2.1) β (x.2.2.1) (x.2.2.2.1) (x.2.2.2.2) τs n)) o18 = cU cyI cyB cyO ua ub up aw as' pa20 β υ21 ω22 sid23 τs n := by rw [← epa20, ← eυ21, ← eω22, ← esid23]; cases o18 <;> rfl
    replace hB := (congrArg (fun z : va_W => Bd (dC, dI) [(cyI, .int), (cyB, .byte), (cyO, .object "UndoJourneys$World"), (cyA, .array .int), (cyT, .object "UndoJourneysLaw$Trip"), (cyW, .object "UndoJourneysLaw$World"), (cyZ, .boolean)] (va_A [] s.heap.size) s (z ++ (wF [[(bu, .inl (cyI, 8, .inl b))], cN rn sd, cX cyI cyA cyT wa ks ts kr ta sa ra K mT Ns ζ κ Φ2 Ψ3, [(nb, .inl (cyW, 9, .inr (.inr (.inr (.inr (fun j => (pb j).map pwa))))))], cXs cyI cyA cyT pwa pks pts pkr pta psa pra K mT Ns pζ pκ pΦ pΨ pc0])) H locs) e9).mp hB
    replace hB := hB.perm wF_un1
    replace hB := hB.perm (wperm (L' := [cU cyI cyB cyO ua ub up aw as' pa20 β υ21 ω22 sid23 τs n, [(bu, .inl (cyI, 8, .inl b))], cN rn sd, cX cyI cyA cyT wa ks ts kr ta sa ra K mT Ns ζ κ Φ2 Ψ3, [(nb, .inl (cyW, 9, .inr (.inr (.inr (.inr (fun j => (pb j).map pwa))))))], cXs cyI cyA cyT pwa pks pts pkr pta psa pra K mT Ns pζ pκ pΦ pΨ pc0]) [0, 1, 2, 3, 4, 5] (by decide +kernel) rfl rfl)
    refine lv_iload hx hb dL_law_650 (lv_at hl 2 rfl) ?_
    replace hf := ob1_s hf
    obtain ⟨v24, hJ26, hf⟩ := hf
    have kJ27 : (v24 = 0 ∨ v24 = 1) → ∀ (H : Heap) (locs : List Loc) (ls : Array Slot), Bd (dC, dI) [(cyI, .int), (cyB, .byte), (cyO, .object "UndoJourneys$World"), (cyA, .array .int), (cyT, .object "UndoJourneysLaw$Trip"), (cyW, .object "UndoJourneysLaw$World"), (cyZ, .boolean)] (va_A [] s.heap.size) s (wF [cU cyI cyB cyO ua ub up aw as' pa20 β υ21 ω22 sid23 τs n, [(bu, .inl (cyI, 8, .inl b))], cN rn sd, cX cyI cyA cyT wa ks ts kr ta sa ra K mT Ns ζ κ Φ2 Ψ3, [(nb, .inl (cyW, 9, .inr (.inr (.inr (.inr (fun j => (pb j).map pwa))))))], cXs cyI cyA cyT pwa pks pts pkr pta psa pra K mT Ns pζ pκ pΦ pΨ pc0]) H locs → lv_has ls 25 [(11, .int l16), (10, .ref pv), (9, .int l9), (8, .int l8), (7, .ref nb), (6, .ref wa), (5, .ref rn), (3, .ref ua), (2, .int l2), (0, .ref sb)] → W p l e room_1 s m #[Value.ref sb] below meth c H locs (c00 + 2) (s00 + 12) (lw_Z below #[Value.ref sb] s) (F0 m 660 ls [.int v24]) := by
      clear hB hl ls locs H
      intro z25 H locs ls hB hl
      refine lv_istore_n (lv' := [(1, .int v24), (11, .int l16), (10, .ref pv), (9, .int l9), (8, .int l8), (7, .ref nb), (6, .ref wa), (5, .ref rn), (3, .ref ua), (2, .int l2), (0, .ref sb)]) hx hb dL_law_660 rfl hl (by decide) rfl ?_
      clear hl ls
      intro ls hl
      refine lv_goto (tgt := 954) hx hb dL_law_661 (by decide) ?_
      obtain ⟨e0, e1, e2, e3, e4, e5, e6, e7⟩ := inj8 hf
      subst e0
      subst e1
      subst e2
      subst e3
      subst e4
      subst e5
      subst e6
      subst e7
      exact nxt _ _ _ hB (lv_sub hl [1, 2, 3, 4, 5, 6, 7, 8, 9, 0, 10] rfl)
    refine lv_icmp_ne (tgt := 659) hx hb dL_law_652 (by decide) (fun c28 => ?_) (fun c28 => ?_)
    · replace hJ26 := ite_f c28 hJ26
      refine lv_iconst (v := (0 : Int32)) hx hb dL_law_659 (by decide) ?_
      have e0 := inj1 hJ26
      subst e0
      exact kJ27 (Or.inl rfl) _ _ _ hB (lv_sub hl [0, 3, 4, 5, 6, 7, 8, 9, 10, 11] rfl)
    · replace hJ26 := ite_t c28 hJ26
      refine lv_iconst (v := (1 : Int32)) hx hb dL_law_655 (by decide) ?_
      refine lv_goto (tgt := 660) hx hb dL_law_656 (by decide) ?_
      have e0 := inj1 hJ26
      subst e0
      exact kJ27 (Or.inr rfl) _ _ _ hB (lv_sub hl [0, 3, 4, 5, 6, 7, 8, 9, 10, 11] rfl)
  refine lv_if_eq (tgt := 644) hx hb dL_law_617 (by decide) (fun c6 => ?_) (fun c6 => ?_)
  · replace hJ4 := ite_t c6 hJ4
    obtain ⟨e0, e1, e2⟩ := inj3 hJ4
    subst e0
    subst e1
    subst e2
    exact kJ5 _ _ _ hB (lv_sub hl [0, 3, 4, 5, 6, 7, 8, 9, 10, 11, 12, 13] rfl)
  · replace hJ4 := ite_f c6 hJ4
    refine lv_aloadR hx hb dL_law_620 (lv_at hl 2 rfl) ?_
    replace hJ4 := ob1_s hJ4
    obtain ⟨j7, ej7, hJ4⟩ := hJ4
    replace hJ4 := ob1_s hJ4
    obtain ⟨_, h_j7, hJ4⟩ := hJ4
    replace h_j7 := gLt_s h_j7
    rw [show va_rf (Option.map ta l15) = Value.ref (ta j7) from by rw [ej7]; rfl]
    replace hJ4 := ob1_s hJ4
    obtain ⟨r8, hc, hJ4⟩ := hJ4
    refine e_Vi (S := Unit) (As := []) (rest := []) (wc := cT cyI cyA (ta j7) (sa j7) (ra j7) (Ns j7) (Φ j7) (Ψ j7)) (wr := (rX cyI cyA cyT wa ks ts kr ta sa ra K mT Ns ζ κ Φ Ψ j7 ++ (wF [cU cyI cyB cyO ua ub up aw as' pa β υ ω sid τs n, [(bu, .inl (cyI, 8, .inl b))], cN rn sd, [(nb, .inl (cyW, 9, .inr (.inr (.inr (.inr (fun j => (pb j).map pwa))))))], cXs cyI cyA cyT pwa pks pts pkr pta psa pra K mT Ns pζ pκ pΦ pΨ pc0]))) (w1 := fun _ => cT cyI cyA (ta j7) (sa j7) (ra j7) (Ns j7) (Φ j7) (Ψ j7)) ⟨hx, hb, hml, hown, hts⟩ (kX5_last l dC dI cyI cyA (ta j7) (sa j7) (ra j7) H.size hc) (cwV 0 hts (gv_X5_last_229 hgb) rfl rfl rfl (by decide +kernel) ⟨(Nat.le_of_ble_eq_true rfl), (Nat.le_of_ble_eq_true rfl)⟩) (pcut_pre (hB.perm ((wperm (L' := [cX cyI cyA cyT wa ks ts kr ta sa ra K mT Ns ζ κ Φ Ψ, cU cyI cyB cyO ua ub up aw as' pa β υ ω sid τs n, [(bu, .inl (cyI, 8, .inl b))], cN rn sd, [(nb, .inl (cyW, 9, .inr (.inr (.inr (.inr (fun j => (pb j).map pwa))))))], cXs cyI cyA cyT pwa pks pts pkr pta psa pra K mT Ns pζ pκ pΦ pΨ pc0]) [3, 0, 1, 2, 4, 5] (by decide +kernel) rfl rfl).trans (cX_viewr cyI cyA cyT wa ks ts kr ta sa ra K mT Ns ζ κ Φ Ψ h_j7 _))) (hK.sub [0, 3] rfl) (.ref (ta j7) :: [])) hB hA (g_recv (ci := 5) hK (hB.perm ((wperm (L' := [cX cyI cyA cyT wa ks ts kr ta sa ra K mT Ns ζ κ Φ Ψ, cU cyI cyB cyO ua ub up aw as' pa β υ ω sid τs n, [(bu, .inl (cyI, 8, .inl b))], cN rn sd, [(nb, .inl (cyW, 9, .inr (.inr (.inr (.inr (fun j => (pb j).map pwa))))))], cXs cyI cyA cyT pwa pks pts pkr pta psa pra K mT Ns pζ pκ pΦ pΨ pc0]) [3, 0, 1, 2, 4, 5] (by decide +kernel) rfl rfl).trans (cX_viewr cyI cyA cyT wa ks ts kr ta sa ra K mT Ns ζ κ Φ Ψ h_j7 _))) 0 rfl rfl rfl) ((wperm (L' := [cX cyI cyA cyT wa ks ts kr ta sa ra K mT Ns ζ κ Φ Ψ, cU cyI cyB cyO ua ub up aw as' pa β υ ω sid τs n, [(bu, .inl (cyI, 8, .inl b))], cN rn sd, [(nb, .inl (cyW, 9, .inr (.inr (.inr (.inr (fun j => (pb j).map pwa))))))], cXs cyI cyA cyT pwa pks pts pkr pta psa pra K mT Ns pζ pκ pΦ pΨ pc0]) [3, 0, 1, 2, 4, 5] (by decide +kernel) rfl rfl).trans (cX_viewr cyI cyA cyT wa ks ts kr ta sa ra K mT Ns ζ κ Φ Ψ h_j7 _)) rfl hl.1 rfl (Nat.le_of_ble_eq_true rfl) dL_law_622 ⟨Nat.le_trans (m := 500000) (by show _ ≤ 500000; omega) rm_c, Nat.le_trans (m := 6000000) (by show _ ≤ 6000000; omega) rm_s⟩ ?_
    clear hB locs H
    intro r9 _ H locs hr9 hB
    replace hB := hB.perm (cX_viewr cyI cyA cyT wa ks ts kr ta sa ra K mT Ns ζ κ Φ Ψ h_j7 _).symm
    rw [hr9]
    replace hB := hB.perm wF_un1
    replace hB := hB.perm (wperm (L' := [cU cyI cyB cyO ua ub up aw as' pa β υ ω sid τs n, [(bu, .inl (cyI, 8, .inl b))], cN rn sd, cX cyI cyA cyT wa ks ts kr ta sa ra K mT Ns ζ κ Φ Ψ, [(nb, .inl (cyW, 9, .inr (.inr (.inr (.inr (fun j => (pb j).map pwa))))))], cXs cyI cyA cyT pwa pks pts pkr pta psa pra K mT Ns pζ pκ pΦ pΨ pc0]) [1, 2, 3, 0, 4, 5] (by decide +kernel) rfl rfl)
    refine lv_istore (lv' := [(12, .int r8), (11, .int l16), (16, .int l16), (15, va_rf (Option.map ta l15)), (14, .int l14), (10, .ref pv), (9, .int l9), (8, .int l8), (7, .ref nb), (6, .ref wa), (5, .ref rn), (3, .ref ua), (2, .int l2), (0, .ref sb)]) hx hb dL_law_625 hl (by decide) rfl ?_
    clear hl ls
    intro ls hl
    refine lv_aloadR hx hb dL_law_627 (lv_at hl 3 rfl) ?_
    replace hJ4 := ob1_s hJ4
    obtain ⟨j11, ej11, hJ4⟩ := hJ4
    replace hJ4 := ob1_s hJ4
    obtain ⟨_, h_j11, hJ4⟩ := hJ4
    replace h_j11 := gLt_s h_j11
    rw [show va_rf (Option.map ta l15) = Value.ref (ta j11) from by rw [ej11]; rfl]
    refine g_get (C := RX5) (T := TX5) (N := 7) hx hb hts hinX5 hown hK ((hB.perm (wperm (L' := [cX cyI cyA cyT wa ks ts kr ta sa ra K mT Ns ζ κ Φ Ψ, cU cyI cyB cyO ua ub up aw as' pa β υ ω sid τs n, [(bu, .inl (cyI, 8, .inl b))], cN rn sd, [(nb, .inl (cyW, 9, .inr (.inr (.inr (.inr (fun j => (pb j).map pwa))))))], cXs cyI cyA cyT pwa pks pts pkr pta psa pra K mT Ns pζ pκ pΦ pΨ pc0]) [3, 0, 1, 2, 4, 5] (by decide +kernel) rfl rfl)).perm (cX_viewr cyI cyA cyT wa ks ts kr ta sa ra K mT Ns ζ κ Φ Ψ h_j11 _)) 0 rfl rfl 6 rfl hq0 rfl rfl dL_law_629 ?_
    refine lv_iload hx hb dL_law_632 (lv_at hl 0 rfl) ?_
    replace hJ4 := ob1_s hJ4
    obtain ⟨j12, e9, hJ4⟩ := hJ4
    obtain ⟨h_j12, e9⟩ := hixn_s e9
    refine g_aald hx hb hK ((hB.perm (wperm (L' := [cX cyI cyA cyT wa ks ts kr ta sa ra K mT Ns ζ κ Φ Ψ, cU cyI cyB cyO ua ub up aw as' pa β υ ω sid τs n, [(bu, .inl (cyI, 8, .inl b))], cN rn sd, [(nb, .inl (cyW, 9, .inr (.inr (.inr (.inr (fun j => (pb j).map pwa))))))], cXs cyI cyA cyT pwa pks pts pkr pta psa pra K mT Ns pζ pκ pΦ pΨ pc0]) [3, 0, 1, 2, 4, 5] (by decide +kernel) rfl rfl)).perm (cX_viewr cyI cyA cyT wa ks ts kr ta sa ra K mT Ns ζ κ Φ Ψ h_j11 _)) 1 3 rfl rfl e9 dL_law_634 ?_
    refine lv_iconst (v := (4 : Int32)) hx hb dL_law_635 (by decide) ?_
    refine lv_bipush (v := (6 : Int32)) hx hb dL_law_636 (by decide) ?_
    replace hJ4 := ob1_s hJ4
    obtain ⟨ψ13, e9, hJ4⟩ := hJ4
    obtain ⟨hi, e9⟩ := wra_s e9
    replace hJ4 := ob1_s hJ4
    obtain ⟨Ψ14, e8, hJ4⟩ := hJ4
    replace e8 := inj1 e8
    refine g_iast hx hb hK ((hB.perm (wperm (L' := [cX cyI cyA cyT wa ks ts kr ta sa ra K mT Ns ζ κ Φ Ψ, cU cyI cyB cyO ua ub up aw as' pa β υ ω sid τs n, [(bu, .inl (cyI, 8, .inl b))], cN rn sd, [(nb, .inl (cyW, 9, .inr (.inr (.inr (.inr (fun j => (pb j).map pwa))))))], cXs cyI cyA cyT pwa pks pts pkr pta psa pra K mT Ns pζ pκ pΦ pΨ pc0]) [3, 0, 1, 2, 4, 5] (by decide +kernel) rfl rfl)).perm (cX_viewr cyI cyA cyT wa ks ts kr ta sa ra K mT Ns ζ κ Φ Ψ h_j11 _)) (2 + j12) 0 (cT_row cyI cyA (ta j11) (sa j11) (ra j11) (Ns j11) (Φ j11) (Ψ j11) _ h_j12) rfl hi rfl dL_law_638 (w2 := cT cyI cyA (ta j11) (sa j11) (ra j11) (Ns j11) (Φ j11) ψ13 ++ (rX cyI cyA cyT wa ks ts kr ta sa ra K mT Ns ζ κ Φ Ψ j11 ++ (wF [cU cyI cyB cyO ua ub up aw as' pa β υ ω sid τs n, [(bu, .inl (cyI, 8, .inl b))], cN rn sd, [(nb, .inl (cyW, 9, .inr (.inr (.inr (.inr (fun j => (pb j).map pwa))))))], cXs cyI cyA cyT pwa pks pts pkr pta psa pra K mT Ns pζ pκ pΦ pΨ pc0]))) (by rw [← e9]; exact cT_set cyI cyA (ta j11) (sa j11) (ra j11) (Ns j11) (Φ j11) (Ψ j11) _ h_j12 _) ?_
    clear hB locs H
    intro H locs hB
    replace hB := hB.perm (cX_brS cyI cyA cyT wa ks ts kr ta sa ra K mT Ns ζ κ Φ Ψ h_j11 ψ13 _)
    rw [e8] at hB
    replace hB := hB.perm wF_un1
    replace hB := hB.perm (wperm (L' := [cU cyI cyB cyO ua ub up aw as' pa β υ ω sid τs n, [(bu, .inl (cyI, 8, .inl b))], cN rn sd, cX cyI cyA cyT wa ks ts kr ta sa ra K mT Ns ζ κ Φ Ψ14, [(nb, .inl (cyW, 9, .inr (.inr (.inr (.inr (fun j => (pb j).map pwa))))))], cXs cyI cyA cyT pwa pks pts pkr pta psa pra K mT Ns pζ pκ pΦ pΨ pc0]) [1, 2, 3, 0, 4, 5] (by decide +kernel) rfl rfl)
    refine lv_aloadR hx hb dL_law_639 (lv_at hl 3 rfl) ?_
    replace hJ4 := ob1_s hJ4
    obtain ⟨j15, ej15, hJ4⟩ := hJ4
    replace hJ4 := ob1_s hJ4
    obtain ⟨_, h_j15, hJ4⟩ := hJ4
    replace h_j15 := gLt_s h_j15
    rw [show va_rf (Option.map ta l15) = Value.ref (ta j15) from by rw [ej15]; rfl]
    replace hJ4 := ob1_s hJ4
    obtain ⟨φ16, hc, hJ4⟩ := hJ4
    refine e_Vv (S := Unit) (As := []) (rest := []) (wc := cT cyI cyA (ta j15) (sa j15) (ra j15) (Ns j15) (Φ j15) (Ψ14 j15)) (wr := (rX cyI cyA cyT wa ks ts kr ta sa ra K mT Ns ζ κ Φ Ψ14 j15 ++ (wF [cU cyI cyB cyO ua ub up aw as' pa β υ ω sid τs n, [(bu, .inl (cyI, 8, .inl b))], cN rn sd, [(nb, .inl (cyW, 9, .inr (.inr (.inr (.inr (fun j => (pb j).map pwa))))))], cXs cyI cyA cyT pwa pks pts pkr pta psa pra K mT Ns pζ pκ pΦ pΨ pc0]))) (w1 := fun _ => cT cyI cyA (ta j15) (sa j15) (ra j15) (Ns j15) φ16 (Ψ14 j15)) ⟨hx, hb, hml, hown, hts⟩ (kX5_goesBack l dC dI cyI cyA (ta j15) (sa j15) (ra j15) H.size hc) (cwV 0 hts (gv_X5_goesBack_236 hgb) rfl rfl rfl (by decide +kernel) ⟨(Nat.le_of_ble_eq_true rfl), (Nat.le_of_ble_eq_true rfl)⟩) (pcut_pre (hB.perm ((wperm (L' := [cX cyI cyA cyT wa ks ts kr ta sa ra K mT Ns ζ κ Φ Ψ14, cU cyI cyB cyO ua ub up aw as' pa β υ ω sid τs n, [(bu, .inl (cyI, 8, .inl b))], cN rn sd, [(nb, .inl (cyW, 9, .inr (.inr (.inr (.inr (fun j => (pb j).map pwa))))))], cXs cyI cyA cyT pwa pks pts pkr pta psa pra K mT Ns pζ pκ pΦ pΨ pc0]) [3, 0, 1, 2, 4, 5] (by decide +kernel) rfl rfl).trans (cX_viewr cyI cyA cyT wa ks ts kr ta sa ra K mT Ns ζ κ Φ Ψ14 h_j15 _))) (hK.sub [0, 3] rfl) (.ref (ta j15) :: [])) hB hA (g_recv (ci := 5) hK (hB.perm ((wperm (L' := [cX cyI cyA cyT wa ks ts kr ta sa ra K mT Ns ζ κ Φ Ψ14, cU cyI cyB cyO ua ub up aw as' pa β υ ω sid τs n, [(bu, .inl (cyI, 8, .inl b))], cN rn sd, [(nb, .inl (cyW, 9, .inr (.inr (.inr (.inr (fun j => (pb j).map pwa))))))], cXs cyI cyA cyT pwa pks pts pkr pta psa pra K mT Ns pζ pκ pΦ pΨ pc0]) [3, 0, 1, 2, 4, 5] (by decide +kernel) rfl rfl).trans (cX_viewr cyI cyA cyT wa ks ts kr ta sa ra K mT Ns ζ κ Φ Ψ14 h_j15 _))) 0 rfl rfl rfl) ((wperm (L' := [cX cyI cyA cyT wa ks ts kr ta sa ra K mT Ns ζ κ Φ Ψ14, cU cyI cyB cyO ua ub up aw as' pa β υ ω sid τs n, [(bu, .inl (cyI, 8, .inl b))], cN rn sd, [(nb, .inl (cyW, 9, .inr (.inr (.inr (.inr (fun j => (pb j).map pwa))))))], cXs cyI cyA cyT pwa pks pts pkr pta psa pra K mT Ns pζ pκ pΦ pΨ pc0]) [3, 0, 1, 2, 4, 5] (by decide +kernel) rfl rfl).trans (cX_viewr cyI cyA cyT wa ks ts kr ta sa ra K mT Ns ζ κ Φ Ψ14 h_j15 _)) rfl hl.1 rfl (Nat.le_of_ble_eq_true rfl) dL_law_641 ⟨Nat.le_trans (m := 500000) (by show _ ≤ 500000; omega) rm_c, Nat.le_trans (m := 6000000) (by show _ ≤ 6000000; omega) rm_s⟩ ?_
    clear hB locs H
    intro _ H locs hr9 hB
    replace hJ4 := ob1_s hJ4
    obtain ⟨Φ17, eΦ17, hJ4⟩ := hJ4
    replace eΦ17 := inj1 eΦ17
    replace hB := hB.perm (cX_brF cyI cyA cyT wa ks ts kr ta sa ra K mT Ns ζ κ Φ Ψ14 h_j15 φ16 _)
    rw [eΦ17] at hB
    replace hB := hB.perm wF_un1
    replace hB := hB.perm (wperm (L' := [cU cyI cyB cyO ua ub up aw as' pa β υ ω sid τs n, [(bu, .inl (cyI, 8, .inl b))], cN rn sd, cX cyI cyA cyT wa ks ts kr ta sa ra K mT Ns ζ κ Φ17 Ψ14, [(nb, .inl (cyW, 9, .inr (.inr (.inr (.inr (fun j => (pb j).map pwa))))))], cXs cyI cyA cyT pwa pks pts pkr pta psa pra K mT Ns pζ pκ pΦ pΨ pc0]) [1, 2, 3, 0, 4, 5] (by decide +kernel) rfl rfl)
    obtain ⟨e0, e1, e2⟩ := inj3 hJ4
    subst e0
    subst e1
    subst e2
    exact kJ5 _ _ _ hB (lv_sub hl [1, 4, 0, 5, 6, 7, 8, 9, 10, 11, 12, 13] rfl)
