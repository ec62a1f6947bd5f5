/-! the law from 557 to 954 -/
set_option maxHeartbeats 16000000 in
set_option maxRecDepth 100000 in
theorem kR557 {p : Program} {l : Launch} {e : Env} {s : State} {m : MethodId} {below : List Frame} {meth : Method} {c : Code} {sb L : Nat} {xs : Nat → Int32} {dC : Nat → ClassId} {dI : Nat → Nat → Nat} {cyI cyB cyO cyA cyT cyW cyZ : ClassId} {kS : Nat → Nat} (hx : p.tables.exec = Jvm.exec) (hb : c.code = cL_law) (hml : c.maxLocals = 25) (hown : s.vm.findClass RL = some m.cls) (hts : ∀ w ∈ lw_tbl, w.before #[Value.ref sb] s = true) (hX : va_X sb L xs s s.heap) (hbl : sb < s.heap.size) (hbA : ¬ va_A [] s.heap.size sb) (hl0 : l.stackTraces = false) (hK : va_K (dC, dI) vwCl [(cyI, .int), (cyB, .byte), (cyO, .object "UndoJourneys$World"), (cyA, .array .int), (cyT, .object "UndoJourneysLaw$Trip"), (cyW, .object "UndoJourneysLaw$World"), (cyZ, .boolean)] s) (hEV : EV kS (va_A [] s.heap.size) s s.heap) (hr : meth.sig.returnType = ret) (hlocks : meth.locks = false) {ua ub up bu rn nb wa ks ts : Nat} {aw : Nat → Nat → Nat} {kr ta sa : PA} {ra : Nat → PA} {K mT : Nat} {Ns : PA} (hKn : K < 7) (hmT : mT < 9) (hNs : ∀ k, k < mT → Ns k < 10) {as' : Nat → Nat → Nat} {pwa : PA} {pks : PA} {pts : PA} {pkr : Nat → PA} {pta : Nat → PA} {psa : Nat → PA} {pra : Nat → Nat → PA} {pv : Nat} {fu : Nat} {l16 : Int32} {l15 : (Option Nat)} {l14 : Int32} {l12 : Int32} {l9 : Int32} {l8 : Int32} {l2 : Int32} {τs : WS} {n : Nat} {pa : PA} {β : FS} {υ : MS} {ω : WS} {sid : PA} {b : FS} {sd : MS} {ζ : MS} {κ : MS} {Φ : WS} {Ψ : WS} {pb : (Nat → Option Nat)} {pζ : WS} {pκ : WS} {pΦ : (Nat → WS)} {pΨ : (Nat → WS)} {pc0 : Nat} {o1 : Int32} {o11 : Int32} {pa_ : PA} {υ_ : MS} {ω_ : WS} {sid_ : PA} {κ_ : MS} {Φ_ : WS} {Ψ_ : WS} (hf : mL_law_R557 fu K mT Ns l16 l15 l14 l12 l9 l8 l2 τs n pa β υ ω sid b sd ζ κ Φ Ψ pb pζ pκ pΦ pΨ pc0 = some (o1, o11, pa_, υ_, ω_, sid_, κ_, Φ_, Ψ_)) {H : Heap} {locs : List Loc} {ls : Array Slot} {c00 s00 : Nat} (hc0 : c00 + 2 ≤ 500000) (hs0 : s00 + 12 ≤ 6000000) (hB : Bd (dC, dI) [(cyI, .int), (cyB, .byte), (cyO, .object "UndoJourneys$World"), (cyA, .array .int), (cyT, .object "UndoJourneysLaw$Trip"), (cyW, .object "UndoJourneysLaw$World"), (cyZ, .boolean)] (va_A [] s.heap.size) s (wF [cU cyI cyB cyO ua ub up aw as' pa β υ ω sid τs n, [(bu, .inl (cyI, 8, .inl b))], cN rn sd, cX cyI cyA cyT wa ks ts kr ta sa ra K mT Ns ζ κ Φ Ψ, [(nb, .inl (cyW, 9, .inr (.inr (.inr (.inr (fun j => (pb j).map pwa))))))], cXs cyI cyA cyT pwa pks pts pkr pta psa pra K mT Ns pζ pκ pΦ pΨ pc0]) H locs) (hl : lv_has ls 25 [(16, .int l16), (15, va_rf (Option.map ta l15)), (14, .int l14), (12, .int l12), (10, .ref pv), (9, .int l9), (8, .int l8), (7, .ref nb), (6, .ref wa), (5, .ref rn), (3, .ref ua), (2, .int l2), (0, .ref sb)]) (nxt : ∀ (H : Heap) (locs : List Loc) (ls : Array Slot), Bd (dC, dI) [(cyI, .int), (cyB, .byte), (cyO, .object "UndoJourneys$World"), (cyA, .array .int), (cyT, .object "UndoJourneysLaw$Trip"), (cyW, .object "UndoJourneysLaw$World"), (cyZ, .boolean)] (va_A [] s.heap.size) s (wF [cU cyI cyB cyO ua ub up aw as' pa_ β υ_ ω_ sid_ τs n, [(bu, .inl (cyI, 8, .inl b))], cN rn sd, cX cyI cyA cyT wa ks ts kr ta sa ra K mT Ns ζ κ_ Φ_ Ψ_, [(nb, .inl (cyW, 9, .inr (.inr (.inr (.inr (fun j => (pb j).map pwa))))))], cXs cyI cyA cyT pwa pks pts pkr pta psa pra K mT Ns pζ pκ pΦ pΨ pc0]) H locs → lv_has ls 25 [(11, .int o11), (10, .ref pv), (9, .int l9), (8, .int l8), (7, .ref nb), (6, .ref wa), (5, .ref rn), (3, .ref ua), (2, .int l2), (1, .int o1), (0, .ref sb)] → W p l e room_1 s m #[Value.ref sb] below meth c H locs (c00 + 2) (s00 + 12) (lw_Z below #[Value.ref sb] s) (F0 m 954 ls [])) : W p l e room_1 s m #[Value.ref sb] below meth c H locs c00 s00 (lw_Z below #[Value.ref sb] s) (F0 m 557 ls []) := by
  obtain ⟨hEX, hNC, hJ, hNw, hNw3, hAOw, hN6, hN5, hAOT, hAOW, hAOA, hCl⟩ := id hEV
  have hA : ∀ q : Nat, s.heap.size ≤ q → va_A [] s.heap.size q := fun q h => Or.inr h
  have hgb : ∀ w ∈ gw_tbl, w ∈ lw_tbl := gw_in
  have hq0 : (Cond.fieldLink RL 148 "UndoJourneysLaw$Trip" "steps" "[[I").before _ s = true := hts _ (tb2 83 rfl)
  have hinX5 : ∀ w ∈ wsX50, w ∈ lw_tbl := t_wsX50
  show W p l e room_1 s m #[Value.ref sb] below meth c H locs (c00 + 0) (s00 + 0) (lw_Z below #[Value.ref sb] s) (F0 m 557 ls [])
  have hrc_settle : rmL_settle.cells = 2 := rfl
  have hrs_settle : rmL_settle.slots = 12 := rfl
  unfold mL_law_R557 at hf
  refine lv_iload hx hb dL_law_557 (lv_at hl 0 rfl) ?_
  refine lv_istore (lv' := [(11, .int l16), (16, .int l16), (15, va_rf (Option.map ta l15)), (14, .int l14), (12, .int l12), (10, .ref pv), (9, .int l9), (8, .int l8), (7, .ref nb), (6, .ref wa), (5, .ref rn), (3, .ref ua), (2, .int l2), (0, .ref sb)]) hx hb dL_law_559 hl (by decide) rfl ?_
  clear hl ls
  intro ls hl
  refine lv_iload hx hb dL_law_561 (lv_at hl 1 rfl) ?_
  replace hf := ob4_s hf
  obtain ⟨v1, κ2, Φ3, Ψ4, hJ5, hf⟩ := hf
  have kJ6 : ∀ (H : Heap) (locs : List Loc) (ls : Array Slot), Bd (dC, dI) [(cyI, .int), (cyB, .byte), (cyO, .object "UndoJourneys$World"), (cyA, .array .int), (cyT, .object "UndoJourneysLaw$Trip"), (cyW, .object "UndoJourneysLaw$World"), (cyZ, .boolean)] (va_A [] s.heap.size) s (wF [cU cyI cyB cyO ua ub up aw as' pa β υ ω sid τs n, [(bu, .inl (cyI, 8, .inl b))], cN rn sd, cX cyI cyA cyT wa ks ts kr ta sa ra K mT Ns ζ κ2 Φ3 Ψ4, [(nb, .inl (cyW, 9, .inr (.inr (.inr (.inr (fun j => (pb j).map pwa))))))], cXs cyI cyA cyT pwa pks pts pkr pta psa pra K mT Ns pζ pκ pΦ pΨ pc0]) H locs → lv_has ls 25 [(11, .int l16), (14, .int l14), (12, .int v1), (10, .ref pv), (9, .int l9), (8, .int l8), (7, .ref nb), (6, .ref wa), (5, .ref rn), (3, .ref ua), (2, .int l2), (0, .ref sb)] → W p l e room_1 s m #[Value.ref sb] below meth c H locs (c00 + 0) (s00 + 0) (lw_Z below #[Value.ref sb] s) (F0 m 591 ls []) := by
    clear hB hl ls locs H
    intro H locs ls hB hl
    refine lv_aload_n hx hb dL_law_591 rfl (lv_at hl 9 rfl) ?_
    refine lv_iload hx hb dL_law_592 (lv_at hl 1 rfl) ?_
    replace hf := ob1_s hf
    obtain ⟨o19, hc, hf⟩ := hf
    obtain ⟨hc, hE9⟩ := hEl_s hc
    replace hf := ob1_s hf
    obtain ⟨r20, er9, hf⟩ := hf
    replace er9 := inj1 er9
    replace hf := ob1_s hf
    obtain ⟨pa21, epa21, hf⟩ := hf
    replace epa21 := inj1 epa21
    replace hf := ob1_s hf
    obtain ⟨υ22, eυ22, hf⟩ := hf
    replace eυ22 := inj1 eυ22
    replace hf := ob1_s hf
    obtain ⟨ω23, eω23, hf⟩ := hf
    replace eω23 := inj1 eω23
    replace hf := ob1_s hf
    obtain ⟨sid24, esid24, hf⟩ := hf
    replace esid24 := inj1 esid24
    refine e_Wi (S := Unit) (As := [.ref ua, .int l14]) (rest := []) (wc := cU cyI cyB cyO ua ub up aw as' pa β υ ω sid τs n) (wr := (wF [[(bu, .inl (cyI, 8, .inl b))], cN rn sd, cX cyI cyA cyT wa ks ts kr ta sa ra K mT Ns ζ κ2 Φ3 Ψ4, [(nb, .inl (cyW, 9, .inr (.inr (.inr (.inr (fun j => (pb j).map pwa))))))], cXs cyI cyA cyT pwa pks pts pkr pta psa pra K mT Ns pζ pκ pΦ pΨ pc0])) (w1 := fun _ => xU (cU cyI cyB cyO ua ub up aw as' pa β υ ω sid τs n) (fun x => (cU cyI cyB cyO ua ub up aw as' (x.2.1) β (x.2.2.1) (x.2.2.2.1) (x.2.2.2.2) τs n)) o19) ⟨hx, hb, hml, hown, hts⟩ (kL_settle l hl0 dC dI cyI cyB cyO cyA cyT cyW cyZ ua ub up aw as' kS H.size hc hE9) (vx_cwSW 2 hts (gv_L_settle_217 hgb) rfl rfl rfl (by decide +kernel) ⟨(Nat.le_of_ble_eq_true rfl), (Nat.le_of_ble_eq_true rfl)⟩) (epre_left hEV (hB.perm (wperm (L' := [cU cyI cyB cyO ua ub up aw as' pa β υ ω sid τs n, [(bu, .inl (cyI, 8, .inl b))], cN rn sd, cX cyI cyA cyT wa ks ts kr ta sa ra K mT Ns ζ κ2 Φ3 Ψ4, [(nb, .inl (cyW, 9, .inr (.inr (.inr (.inr (fun j => (pb j).map pwa))))))], cXs cyI cyA cyT pwa pks pts pkr pta psa pra K mT Ns pζ pκ pΦ pΨ pc0]) [0, 1, 2, 3, 4, 5] (by decide +kernel) rfl rfl)) hA hK [.ref ua, .int l14]) hB hA (wperm (L' := [cU cyI cyB cyO ua ub up aw as' pa β υ ω sid τs n, [(bu, .inl (cyI, 8, .inl b))], cN rn sd, cX cyI cyA cyT wa ks ts kr ta sa ra K mT Ns ζ κ2 Φ3 Ψ4, [(nb, .inl (cyW, 9, .inr (.inr (.inr (.inr (fun j => (pb j).map pwa))))))], cXs cyI cyA cyT pwa pks pts pkr pta psa pra K mT Ns pζ pκ pΦ pΨ pc0]) [0, 1, 2, 3, 4, 5] (by decide +kernel) rfl rfl) rfl hl.1 rfl (Nat.le_of_ble_eq_true rfl) dL_law_594 ⟨Nat.le_trans (m := 500000) (by show _ ≤ 500000; omega) rm_c, Nat.le_trans (m := 6000000) (by show _ ≤ 6000000; omega) rm_s⟩ ?_
    clear hB locs H
    intro r9 _ H locs hr9 hB
    rw [hr9, er9]
    have e9 : xU (cU cyI cyB cyO ua ub up aw as' pa β υ ω sid τs n) (fun x => (cU cyI cyB cyO ua ub up aw as' (x.2.1) β (x.2.2.1) (x.2.2.2.1) (x.2.2.2.2) τs n)) o19 = cU cyI cyB cyO ua ub up aw as' pa21 β υ22 ω23 sid24 τs n := by rw [← epa21, ← eυ22, ← eω23, ← esid24]; cases o19 <;> rfl
    replace hB := (congrArg (fun z : va_W => Bd (dC, dI) [(cyI, .int), (cyB, .byte), (cyO, .object "UndoJourneys$World"), (cyA, .array .int), (cyT, .object "UndoJourneysLaw$Trip"), (cyW, .object "UndoJourneysLaw$World"), (cyZ, .boolean)] (va_A [] s.heap.size) s (z ++ (wF [[(bu, .inl (cyI, 8, .inl b))], cN rn sd, cX cyI cyA cyT wa ks ts kr ta sa ra K mT Ns ζ κ2 Φ3 Ψ4, [(nb, .inl (cyW, 9, .inr (.inr (.inr (.inr (fun j => (pb j).map pwa))))))], cXs cyI cyA cyT pwa pks pts pkr pta psa pra K mT Ns pζ pκ pΦ pΨ pc0])) H locs) e9).mp hB
    replace hB := hB.perm wF_un1
    replace hB := hB.perm (wperm (L' := [cU cyI cyB cyO ua ub up aw as' pa21 β υ22 ω23 sid24 τs n, [(bu, .inl (cyI, 8, .inl b))], cN rn sd, cX cyI cyA cyT wa ks ts kr ta sa ra K mT Ns ζ κ2 Φ3 Ψ4, [(nb, .inl (cyW, 9, .inr (.inr (.inr (.inr (fun j => (pb j).map pwa))))))], cXs cyI cyA cyT pwa pks pts pkr pta psa pra K mT Ns pζ pκ pΦ pΨ pc0]) [0, 1, 2, 3, 4, 5] (by decide +kernel) rfl rfl)
    refine lv_iload hx hb dL_law_597 (lv_at hl 2 rfl) ?_
    replace hf := ob1_s hf
    obtain ⟨v25, hJ27, hf⟩ := hf
    have kJ28 : (v25 = 0 ∨ v25 = 1) → ∀ (H : Heap) (locs : List Loc) (ls : Array Slot), Bd (dC, dI) [(cyI, .int), (cyB, .byte), (cyO, .object "UndoJourneys$World"), (cyA, .array .int), (cyT, .object "UndoJourneysLaw$Trip"), (cyW, .object "UndoJourneysLaw$World"), (cyZ, .boolean)] (va_A [] s.heap.size) s (wF [cU cyI cyB cyO ua ub up aw as' pa21 β υ22 ω23 sid24 τs n, [(bu, .inl (cyI, 8, .inl b))], cN rn sd, cX cyI cyA cyT wa ks ts kr ta sa ra K mT Ns ζ κ2 Φ3 Ψ4, [(nb, .inl (cyW, 9, .inr (.inr (.inr (.inr (fun j => (pb j).map pwa))))))], cXs cyI cyA cyT pwa pks pts pkr pta psa pra K mT Ns pζ pκ pΦ pΨ pc0]) H locs → lv_has ls 25 [(11, .int l16), (10, .ref pv), (9, .int l9), (8, .int l8), (7, .ref nb), (6, .ref wa), (5, .ref rn), (3, .ref ua), (2, .int l2), (0, .ref sb)] → W p l e room_1 s m #[Value.ref sb] below meth c H locs (c00 + 2) (s00 + 12) (lw_Z below #[Value.ref sb] s) (F0 m 607 ls [.int v25]) := by
      clear hB hl ls locs H
      intro z26 H locs ls hB hl
      refine lv_istore_n (lv' := [(1, .int v25), (11, .int l16), (10, .ref pv), (9, .int l9), (8, .int l8), (7, .ref nb), (6, .ref wa), (5, .ref rn), (3, .ref ua), (2, .int l2), (0, .ref sb)]) hx hb dL_law_607 rfl hl (by decide) rfl ?_
      clear hl ls
      intro ls hl
      refine lv_goto (tgt := 954) hx hb dL_law_608 (by decide) ?_
      obtain ⟨e0, e1, e2, e3, e4, e5, e6, e7, e8⟩ := inj9 hf
      subst e0
      subst e1
      subst e2
      subst e3
      subst e4
      subst e5
      subst e6
      subst e7
      subst e8
      exact nxt _ _ _ hB (lv_sub hl [1, 2, 3, 4, 5, 6, 7, 8, 9, 0, 10] rfl)
    refine lv_icmp_ne (tgt := 606) hx hb dL_law_599 (by decide) (fun c29 => ?_) (fun c29 => ?_)
    · replace hJ27 := ite_f c29 hJ27
      refine lv_iconst (v := (0 : Int32)) hx hb dL_law_606 (by decide) ?_
      have e0 := inj1 hJ27
      subst e0
      exact kJ28 (Or.inl rfl) _ _ _ hB (lv_sub hl [0, 3, 4, 5, 6, 7, 8, 9, 10, 11] rfl)
    · replace hJ27 := ite_t c29 hJ27
      refine lv_iconst (v := (1 : Int32)) hx hb dL_law_602 (by decide) ?_
      refine lv_goto (tgt := 607) hx hb dL_law_603 (by decide) ?_
      have e0 := inj1 hJ27
      subst e0
      exact kJ28 (Or.inr rfl) _ _ _ hB (lv_sub hl [0, 3, 4, 5, 6, 7, 8, 9, 10, 11] rfl)
  refine lv_if_eq (tgt := 591) hx hb dL_law_563 (by decide) (fun c7 => ?_) (fun c7 => ?_)
  · replace hJ5 := ite_t c7 hJ5
    obtain ⟨e0, e1, e2, e3⟩ := inj4 hJ5
    subst e0
    subst e1
    subst e2
    subst e3
    exact kJ6 _ _ _ hB (lv_sub hl [0, 3, 4, 5, 6, 7, 8, 9, 10, 11, 12, 13] rfl)
  · replace hJ5 := ite_f c7 hJ5
    refine lv_aloadR hx hb dL_law_566 (lv_at hl 2 rfl) ?_
    replace hJ5 := ob1_s hJ5
    obtain ⟨j8, ej8, hJ5⟩ := hJ5
    replace hJ5 := ob1_s hJ5
    obtain ⟨_, h_j8, hJ5⟩ := hJ5
    replace h_j8 := gLt_s h_j8
    rw [show va_rf (Option.map ta l15) = Value.ref (ta j8) from by rw [ej8]; rfl]
    replace hJ5 := ob1_s hJ5
    obtain ⟨r11, hc, hJ5⟩ := hJ5
    refine e_Vi (S := Unit) (As := []) (rest := []) (wc := cT cyI cyA (ta j8) (sa j8) (ra j8) (Ns j8) (Φ j8) (Ψ j8)) (wr := (rX cyI cyA cyT wa ks ts kr ta sa ra K mT Ns ζ κ Φ Ψ j8 ++ (wF [cU cyI cyB cyO ua ub up aw as' pa β υ ω sid τs n, [(bu, .inl (cyI, 8, .inl b))], cN rn sd, [(nb, .inl (cyW, 9, .inr (.inr (.inr (.inr (fun j => (pb j).map pwa))))))], cXs cyI cyA cyT pwa pks pts pkr pta psa pra K mT Ns pζ pκ pΦ pΨ pc0]))) (w1 := fun _ => cT cyI cyA (ta j8) (sa j8) (ra j8) (Ns j8) (Φ j8) (Ψ j8)) ⟨hx, hb, hml, hown, hts⟩ (kX5_last l dC dI cyI cyA (ta j8) (sa j8) (ra j8) H.size hc) (cwV 0 hts (gv_X5_last_229 hgb) rfl rfl rfl (by decide +kernel) ⟨(Nat.le_of_ble_eq_true rfl), (Nat.le_of_ble_eq_true rfl)⟩) (pcut_pre (hB.perm ((wperm (L' := [cX cyI cyA cyT wa ks ts kr ta sa ra K mT Ns ζ κ Φ Ψ, cU cyI cyB cyO ua ub up aw as' pa β υ ω sid τs n, [(bu, .inl (cyI, 8, .inl b))], cN rn sd, [(nb, .inl (cyW, 9, .inr (.inr (.inr (.inr (fun j => (pb j).map pwa))))))], cXs cyI cyA cyT pwa pks pts pkr pta psa pra K mT Ns pζ pκ pΦ pΨ pc0]) [3, 0, 1, 2, 4, 5] (by decide +kernel) rfl rfl).trans (cX_viewr cyI cyA cyT wa ks ts kr ta sa ra K mT Ns ζ κ Φ Ψ h_j8 _))) (hK.sub [0, 3] rfl) (.ref (ta j8) :: [])) hB hA (g_recv (ci := 5) hK (hB.perm ((wperm (L' := [cX cyI cyA cyT wa ks ts kr ta sa ra K mT Ns ζ κ Φ Ψ, cU cyI cyB cyO ua ub up aw as' pa β υ ω sid τs n, [(bu, .inl (cyI, 8, .inl b))], cN rn sd, [(nb, .inl (cyW, 9, .inr (.inr (.inr (.inr (fun j => (pb j).map pwa))))))], cXs cyI cyA cyT pwa pks pts pkr pta psa pra K mT Ns pζ pκ pΦ pΨ pc0]) [3, 0, 1, 2, 4, 5] (by decide +kernel) rfl rfl).trans (cX_viewr cyI cyA cyT wa ks ts kr ta sa ra K mT Ns ζ κ Φ Ψ h_j8 _))) 0 rfl rfl rfl) ((wperm (L' := [cX cyI cyA cyT wa ks ts kr ta sa ra K mT Ns ζ κ Φ Ψ, cU cyI cyB cyO ua ub up aw as' pa β υ ω sid τs n, [(bu, .inl (cyI, 8, .inl b))], cN rn sd, [(nb, .inl (cyW, 9, .inr (.inr (.inr (.inr (fun j => (pb j).map pwa))))))], cXs cyI cyA cyT pwa pks pts pkr pta psa pra K mT Ns pζ pκ pΦ pΨ pc0]) [3, 0, 1, 2, 4, 5] (by decide +kernel) rfl rfl).trans (cX_viewr cyI cyA cyT wa ks ts kr ta sa ra K mT Ns ζ κ Φ Ψ h_j8 _)) rfl hl.1 rfl (Nat.le_of_ble_eq_true rfl) dL_law_568 ⟨Nat.le_trans (m := 500000) (by show _ ≤ 500000; omega) rm_c, Nat.le_trans (m := 6000000) (by show _ ≤ 6000000; omega) rm_s⟩ ?_
    clear hB locs H
    intro r9 _ H locs hr9 hB
    replace hB := hB.perm (cX_viewr cyI cyA cyT wa ks ts kr ta sa ra K mT Ns ζ κ Φ Ψ h_j8 _).symm
    rw [hr9]
    replace hB := hB.perm wF_un1
    replace hB := hB.perm (wperm (L' := [cU cyI cyB cyO ua ub up aw as' pa β υ ω sid τs n, [(bu, .inl (cyI, 8, .inl b))], cN rn sd, cX cyI cyA cyT wa ks ts kr ta sa ra K mT Ns ζ κ Φ Ψ, [(nb, .inl (cyW, 9, .inr (.inr (.inr (.inr (fun j => (pb j).map pwa))))))], cXs cyI cyA cyT pwa pks pts pkr pta psa pra K mT Ns pζ pκ pΦ pΨ pc0]) [1, 2, 3, 0, 4, 5] (by decide +kernel) rfl rfl)
    refine lv_istore (lv' := [(12, .int r11), (11, .int l16), (16, .int l16), (15, va_rf (Option.map ta l15)), (14, .int l14), (10, .ref pv), (9, .int l9), (8, .int l8), (7, .ref nb), (6, .ref wa), (5, .ref rn), (3, .ref ua), (2, .int l2), (0, .ref sb)]) hx hb dL_law_571 hl (by decide) rfl ?_
    clear hl ls
    intro ls hl
    refine lv_aload hx hb dL_law_573 (lv_at hl 9 rfl) ?_
    refine lv_aloadR hx hb dL_law_575 (lv_at hl 3 rfl) ?_
    replace hJ5 := ob1_s hJ5
    obtain ⟨j12, ej12, hJ5⟩ := hJ5
    replace hJ5 := ob1_s hJ5
    obtain ⟨_, h_j12, hJ5⟩ := hJ5
    replace h_j12 := gLt_s h_j12
    rw [show va_rf (Option.map ta l15) = Value.ref (ta j12) from by rw [ej12]; rfl]
    refine g_get (C := RX5) (T := TX5) (N := 7) hx hb hts hinX5 hown hK ((hB.perm (wperm (L' := [cX cyI cyA cyT wa ks ts kr ta sa ra K mT Ns ζ κ Φ Ψ, cU cyI cyB cyO ua ub up aw as' pa β υ ω sid τs n, [(bu, .inl (cyI, 8, .inl b))], cN rn sd, [(nb, .inl (cyW, 9, .inr (.inr (.inr (.inr (fun j => (pb j).map pwa))))))], cXs cyI cyA cyT pwa pks pts pkr pta psa pra K mT Ns pζ pκ pΦ pΨ pc0]) [3, 0, 1, 2, 4, 5] (by decide +kernel) rfl rfl)).perm (cX_viewr cyI cyA cyT wa ks ts kr ta sa ra K mT Ns ζ κ Φ Ψ h_j12 _)) 0 rfl rfl 6 rfl hq0 rfl rfl dL_law_577 ?_
    refine lv_iload hx hb dL_law_580 (lv_at hl 0 rfl) ?_
    replace hJ5 := ob1_s hJ5
    obtain ⟨j13, e9, hJ5⟩ := hJ5
    obtain ⟨h_j13, e9⟩ := hixn_s e9
    refine g_aald hx hb hK ((hB.perm (wperm (L' := [cX cyI cyA cyT wa ks ts kr ta sa ra K mT Ns ζ κ Φ Ψ, cU cyI cyB cyO ua ub up aw as' pa β υ ω sid τs n, [(bu, .inl (cyI, 8, .inl b))], cN rn sd, [(nb, .inl (cyW, 9, .inr (.inr (.inr (.inr (fun j => (pb j).map pwa))))))], cXs cyI cyA cyT pwa pks pts pkr pta psa pra K mT Ns pζ pκ pΦ pΨ pc0]) [3, 0, 1, 2, 4, 5] (by decide +kernel) rfl rfl)).perm (cX_viewr cyI cyA cyT wa ks ts kr ta sa ra K mT Ns ζ κ Φ Ψ h_j12 _)) 1 3 rfl rfl e9 dL_law_582 ?_
    replace hJ5 := ob2_s hJ5
    obtain ⟨κ14, Ψ15, hc, hJ5⟩ := hJ5
    refine e_Vv (S := Unit) (As := [.ref (ra j12 j13)]) (rest := []) (wc := cX cyI cyA cyT wa ks ts kr ta sa ra K mT Ns ζ κ Φ Ψ) (wr := (wF [cU cyI cyB cyO ua ub up aw as' pa β υ ω sid τs n, [(bu, .inl (cyI, 8, .inl b))], cN rn sd, [(nb, .inl (cyW, 9, .inr (.inr (.inr (.inr (fun j => (pb j).map pwa))))))], cXs cyI cyA cyT pwa pks pts pkr pta psa pra K mT Ns pζ pκ pΦ pΨ pc0])) (w1 := fun _ => cX cyI cyA cyT wa ks ts kr ta sa ra K mT Ns ζ κ14 Φ Ψ15) ⟨hx, hb, hml, hown, hts⟩ (kX6_undoes l dC dI cyI cyA cyT wa ks ts kr ta sa ra H.size hc) (cwV 1 hts (gv_X6_undoes_232 hgb) rfl rfl rfl (by decide +kernel) ⟨(Nat.le_of_ble_eq_true rfl), (Nat.le_of_ble_eq_true rfl)⟩) (pcut_pre (hB.perm (wperm (L' := [cX cyI cyA cyT wa ks ts kr ta sa ra K mT Ns ζ κ Φ Ψ, cU cyI cyB cyO ua ub up aw as' pa β υ ω sid τs n, [(bu, .inl (cyI, 8, .inl b))], cN rn sd, [(nb, .inl (cyW, 9, .inr (.inr (.inr (.inr (fun j => (pb j).map pwa))))))], cXs cyI cyA cyT pwa pks pts pkr pta psa pra K mT Ns pζ pκ pΦ pΨ pc0]) [3, 0, 1, 2, 4, 5] (by decide +kernel) rfl rfl)) (hK.sub [0, 3, 4] rfl) (.ref wa :: [.ref (ra j12 j13)])) hB hA (g_recv (ci := 6) hK (hB.perm (wperm (L' := [cX cyI cyA cyT wa ks ts kr ta sa ra K mT Ns ζ κ Φ Ψ, cU cyI cyB cyO ua ub up aw as' pa β υ ω sid τs n, [(bu, .inl (cyI, 8, .inl b))], cN rn sd, [(nb, .inl (cyW, 9, .inr (.inr (.inr (.inr (fun j => (pb j).map pwa))))))], cXs cyI cyA cyT pwa pks pts pkr pta psa pra K mT Ns pζ pκ pΦ pΨ pc0]) [3, 0, 1, 2, 4, 5] (by decide +kernel) rfl rfl)) 0 rfl rfl rfl) (wperm (L' := [cX cyI cyA cyT wa ks ts kr ta sa ra K mT Ns ζ κ Φ Ψ, cU cyI cyB cyO ua ub up aw as' pa β υ ω sid τs n, [(bu, .inl (cyI, 8, .inl b))], cN rn sd, [(nb, .inl (cyW, 9, .inr (.inr (.inr (.inr (fun j => (pb j).map pwa))))))], cXs cyI cyA cyT pwa pks pts pkr pta psa pra K mT Ns pζ pκ pΦ pΨ pc0]) [3, 0, 1, 2, 4, 5] (by decide +kernel) rfl rfl) rfl hl.1 rfl (Nat.le_of_ble_eq_true rfl) dL_law_583 ⟨Nat.le_trans (m := 500000) (by show _ ≤ 500000; omega) rm_c, Nat.le_trans (m := 6000000) (by show _ ≤ 6000000; omega) rm_s⟩ ?_
    clear hB locs H
    intro _ H locs hr9 hB
    replace hB := hB.perm wF_un1
    replace hB := hB.perm (wperm (L' := [cU cyI cyB cyO ua ub up aw as' pa β υ ω sid τs n, [(bu, .inl (cyI, 8, .inl b))], cN rn sd, cX cyI cyA cyT wa ks ts kr ta sa ra K mT Ns ζ κ14 Φ Ψ15, [(nb, .inl (cyW, 9, .inr (.inr (.inr (.inr (fun j => (pb j).map pwa))))))], cXs cyI cyA cyT pwa pks pts pkr pta psa pra K mT Ns pζ pκ pΦ pΨ pc0]) [1, 2, 3, 0, 4, 5] (by decide +kernel) rfl rfl)
    refine lv_aloadR hx hb dL_law_586 (lv_at hl 3 rfl) ?_
    replace hJ5 := ob1_s hJ5
    obtain ⟨j16, ej16, hJ5⟩ := hJ5
    replace hJ5 := ob1_s hJ5
    obtain ⟨_, h_j16, hJ5⟩ := hJ5
    replace h_j16 := gLt_s h_j16
    rw [show va_rf (Option.map ta l15) = Value.ref (ta j16) from by rw [ej16]; rfl]
    replace hJ5 := ob1_s hJ5
    obtain ⟨φ17, hc, hJ5⟩ := hJ5
    refine e_Vv (S := Unit) (As := []) (rest := []) (wc := cT cyI cyA (ta j16) (sa j16) (ra j16) (Ns j16) (Φ j16) (Ψ15 j16)) (wr := (rX cyI cyA cyT wa ks ts kr ta sa ra K mT Ns ζ κ14 Φ Ψ15 j16 ++ (wF [cU cyI cyB cyO ua ub up aw as' pa β υ ω sid τs n, [(bu, .inl (cyI, 8, .inl b))], cN rn sd, [(nb, .inl (cyW, 9, .inr (.inr (.inr (.inr (fun j => (pb j).map pwa))))))], cXs cyI cyA cyT pwa pks pts pkr pta psa pra K mT Ns pζ pκ pΦ pΨ pc0]))) (w1 := fun _ => cT cyI cyA (ta j16) (sa j16) (ra j16) (Ns j16) φ17 (Ψ15 j16)) ⟨hx, hb, hml, hown, hts⟩ (kX5_goesBack l dC dI cyI cyA (ta j16) (sa j16) (ra j16) H.size hc) (cwV 0 hts (gv_X5_goesBack_236 hgb) rfl rfl rfl (by decide +kernel) ⟨(Nat.le_of_ble_eq_true rfl), (Nat.le_of_ble_eq_true rfl)⟩) (pcut_pre (hB.perm ((wperm (L' := [cX cyI cyA cyT wa ks ts kr ta sa ra K mT Ns ζ κ14 Φ Ψ15, cU cyI cyB cyO ua ub up aw as' pa β υ ω sid τs n, [(bu, .inl (cyI, 8, .inl b))], cN rn sd, [(nb, .inl (cyW, 9, .inr (.inr (.inr (.inr (fun j => (pb j).map pwa))))))], cXs cyI cyA cyT pwa pks pts pkr pta psa pra K mT Ns pζ pκ pΦ pΨ pc0]) [3, 0, 1, 2, 4, 5] (by decide +kernel) rfl rfl).trans (cX_viewr cyI cyA cyT wa ks ts kr ta sa ra K mT Ns ζ κ14 Φ Ψ15 h_j16 _))) (hK.sub [0, 3] rfl) (.ref (ta j16) :: [])) hB hA (g_recv (ci := 5) hK (hB.perm ((wperm (L' := [cX cyI cyA cyT wa ks ts kr ta sa ra K mT Ns ζ κ14 Φ Ψ15, cU cyI cyB cyO ua ub up aw as' pa β υ ω sid τs n, [(bu, .inl (cyI, 8, .inl b))], cN rn sd, [(nb, .inl (cyW, 9, .inr (.inr (.inr (.inr (fun j => (pb j).map pwa))))))], cXs cyI cyA cyT pwa pks pts pkr pta psa pra K mT Ns pζ pκ pΦ pΨ pc0]) [3, 0, 1, 2, 4, 5] (by decide +kernel) rfl rfl).trans (cX_viewr cyI cyA cyT wa ks ts kr ta sa ra K mT Ns ζ κ14 Φ Ψ15 h_j16 _))) 0 rfl rfl rfl) ((wperm (L' := [cX cyI cyA cyT wa ks ts kr ta sa ra K mT Ns ζ κ14 Φ Ψ15, cU cyI cyB cyO ua ub up aw as' pa β υ ω sid τs n, [(bu, .inl (cyI, 8, .inl b))], cN rn sd, [(nb, .inl (cyW, 9, .inr (.inr (.inr (.inr (fun j => (pb j).map pwa))))))], cXs cyI cyA cyT pwa pks pts pkr pta psa pra K mT Ns pζ pκ pΦ pΨ pc0]) [3, 0, 1, 2, 4, 5] (by decide +kernel) rfl rfl).trans (cX_viewr cyI cyA cyT wa ks ts kr ta sa ra K mT Ns ζ κ14 Φ Ψ15 h_j16 _)) rfl hl.1 rfl (Nat.le_of_ble_eq_true rfl) dL_law_588 ⟨Nat.le_trans (m := 500000) (by show _ ≤ 500000; omega) rm_c, Nat.le_trans (m := 6000000) (by show _ ≤ 6000000; omega) rm_s⟩ ?_
    clear hB locs H
    intro _ H locs hr9 hB
    replace hJ5 := ob1_s hJ5
    obtain ⟨Φ18, eΦ18, hJ5⟩ := hJ5
    replace eΦ18 := inj1 eΦ18
    replace hB := hB.perm (cX_brF cyI cyA cyT wa ks ts kr ta sa ra K mT Ns ζ κ14 Φ Ψ15 h_j16 φ17 _)
    rw [eΦ18] at hB
    replace hB := hB.perm wF_un1
    replace hB := hB.perm (wperm (L' := [cU cyI cyB cyO ua ub up aw as' pa β υ ω sid τs n, [(bu, .inl (cyI, 8, .inl b))], cN rn sd, cX cyI cyA cyT wa ks ts kr ta sa ra K mT Ns ζ κ14 Φ18 Ψ15, [(nb, .inl (cyW, 9, .inr (.inr (.inr (.inr (fun j => (pb j).map pwa))))))], cXs cyI cyA cyT pwa pks pts pkr pta psa pra K mT Ns pζ pκ pΦ pΨ pc0]) [1, 2, 3, 0, 4, 5] (by decide +kernel) rfl rfl)
    obtain ⟨e0, e1, e2, e3⟩ := inj4 hJ5
    subst e0
    subst e1
    subst e2
    subst e3
    exact kJ6 _ _ _ hB (lv_sub hl [1, 4, 0, 5, 6, 7, 8, 9, 10, 11, 12, 13] rfl)
