/-! the law from 664 to 954 -/
set_option maxHeartbeats 16000000 in
set_option maxRecDepth 100000 in
theorem kR664 {p : Program} {l : Launch} {e : Env} {s : State} {m : MethodId} {below : List Frame} {meth : Method} {c : Code} {sb L : Nat} {xs : Nat → Int32} {dC : Nat → ClassId} {dI : Nat → Nat → Nat} {cyI cyB cyO cyA cyT cyW cyZ : ClassId} {kS : Nat → Nat} (hx : p.tables.exec = Jvm.exec) (hb : c.code = cL_law) (hml : c.maxLocals = 25) (hown : s.vm.findClass RL = some m.cls) (hts : ∀ w ∈ lw_tbl, w.before #[Value.ref sb] s = true) (hX : va_X sb L xs s s.heap) (hbl : sb < s.heap.size) (hbA : ¬ va_A [] s.heap.size sb) (hl0 : l.stackTraces = false) (hK : va_K (dC, dI) vwCl [(cyI, .int), (cyB, .byte), (cyO, .object "UndoJourneys$World"), (cyA, .array .int), (cyT, .object "UndoJourneysLaw$Trip"), (cyW, .object "UndoJourneysLaw$World"), (cyZ, .boolean)] s) (hEV : EV kS (va_A [] s.heap.size) s s.heap) (hr : meth.sig.returnType = ret) (hlocks : meth.locks = false) {ua ub up bu rn nb wa ks ts : Nat} {aw : Nat → Nat → Nat} {kr ta sa : PA} {ra : Nat → PA} {K mT : Nat} {Ns : PA} (hKn : K < 7) (hmT : mT < 9) (hNs : ∀ k, k < mT → Ns k < 10) {as' : Nat → Nat → Nat} {pwa : PA} {pks : PA} {pts : PA} {pkr : Nat → PA} {pta : Nat → PA} {psa : Nat → PA} {pra : Nat → Nat → PA} {pv : Nat} {fu : Nat} {l16 : Int32} {l15 : (Option Nat)} {l14 : Int32} {l12 : Int32} {l9 : Int32} {l8 : Int32} {l2 : Int32} {τs : WS} {n : Nat} {pa : PA} {β : FS} {υ : MS} {ω : WS} {sid : PA} {b : FS} {sd : MS} {ζ : MS} {κ : MS} {Φ : WS} {Ψ : WS} {pb : (Nat → Option Nat)} {pζ : WS} {pκ : WS} {pΦ : (Nat → WS)} {pΨ : (Nat → WS)} {pc0 : Nat} {o1 : Int32} {o11 : Int32} {pa_ : PA} {υ_ : MS} {ω_ : WS} {sid_ : PA} {Φ_ : WS} {Ψ_ : WS} (hf : mL_law_R664 fu K mT Ns l16 l15 l14 l12 l9 l8 l2 τs n pa β υ ω sid b sd ζ κ Φ Ψ pb pζ pκ pΦ pΨ pc0 = some (o1, o11, pa_, υ_, ω_, sid_, Φ_, Ψ_)) {H : Heap} {locs : List Loc} {ls : Array Slot} {c00 s00 : Nat} (hc0 : c00 + 2 ≤ 500000) (hs0 : s00 + 12 ≤ 6000000) (hB : Bd (dC, dI) [(cyI, .int), (cyB, .byte), (cyO, .object "UndoJourneys$World"), (cyA, .array .int), (cyT, .object "UndoJourneysLaw$Trip"), (cyW, .object "UndoJourneysLaw$World"), (cyZ, .boolean)] (va_A [] s.heap.size) s (wF [cU cyI cyB cyO ua ub up aw as' pa β υ ω sid τs n, [(bu, .inl (cyI, 8, .inl b))], cN rn sd, cX cyI cyA cyT wa ks ts kr ta sa ra K mT Ns ζ κ Φ Ψ, [(nb, .inl (cyW, 9, .inr (.inr (.inr (.inr (fun j => (pb j).map pwa))))))], cXs cyI cyA cyT pwa pks pts pkr pta psa pra K mT Ns pζ pκ pΦ pΨ pc0]) H locs) (hl : lv_has ls 25 [(16, .int l16), (15, va_rf (Option.map ta l15)), (14, .int l14), (12, .int l12), (10, .ref pv), (9, .int l9), (8, .int l8), (7, .ref nb), (6, .ref wa), (5, .ref rn), (3, .ref ua), (2, .int l2), (0, .ref sb)]) (nxt : ∀ (H : Heap) (locs : List Loc) (ls : Array Slot), Bd (dC, dI) [(cyI, .int), (cyB, .byte), (cyO, .object "UndoJourneys$World"), (cyA, .array .int), (cyT, .object "UndoJourneysLaw$Trip"), (cyW, .object "UndoJourneysLaw$World"), (cyZ, .boolean)] (va_A [] s.heap.size) s (wF [cU cyI cyB cyO ua ub up aw as' pa_ β υ_ ω_ sid_ τs n, [(bu, .inl (cyI, 8, .inl b))], cN rn sd, cX cyI cyA cyT wa ks ts kr ta sa ra K mT Ns ζ κ Φ_ Ψ_, [(nb, .inl (cyW, 9, .inr (.inr (.inr (.inr (fun j => (pb j).map pwa))))))], cXs cyI cyA cyT pwa pks pts pkr pta psa pra K mT Ns pζ pκ pΦ pΨ pc0]) H locs → lv_has ls 25 [(11, .int o11), (10, .ref pv), (9, .int l9), (8, .int l8), (7, .ref nb), (6, .ref wa), (5, .ref rn), (3, .ref ua), (2, .int l2), (1, .int o1), (0, .ref sb)] → W p l e room_1 s m #[Value.ref sb] below meth c H locs (c00 + 2) (s00 + 12) (lw_Z below #[Value.ref sb] s) (F0 m 954 ls [])) : W p l e room_1 s m #[Value.ref sb] below meth c H locs c00 s00 (lw_Z below #[Value.ref sb] s) (F0 m 664 ls []) := by
  obtain ⟨hEX, hNC, hJ, hNw, hNw3, hAOw, hN6, hN5, hAOT, hAOW, hAOA, hCl⟩ := id hEV
  have hA : ∀ q : Nat, s.heap.size ≤ q → va_A [] s.heap.size q := fun q h => Or.inr h
  have hgb : ∀ w ∈ gw_tbl, w ∈ lw_tbl := gw_in
  have hq0 : (Cond.fieldLink RL 141 "UndoJourneysLaw$Trip" "stages" "I").before _ s = true := hts _ (tb2 70 rfl)
  have hq1 : (Cond.fieldLink RL 148 "UndoJourneysLaw$Trip" "steps" "[[I").before _ s = true := hts _ (tb2 83 rfl)
  have hq2 : (Cond.fieldLink RL 227 "UndoJourneysLaw$Trip" "state" "I").before _ s = true := hts _ (tb2 73 rfl)
  have hq3 : (Cond.fieldLink RL 245 "UndoJourneysLaw$Trip" "end" "I").before _ s = true := hts _ (tb2 78 rfl)
  have hinX5 : ∀ w ∈ wsX50, w ∈ lw_tbl := t_wsX50
  show W p l e room_1 s m #[Value.ref sb] below meth c H locs (c00 + 0) (s00 + 0) (lw_Z below #[Value.ref sb] s) (F0 m 664 ls [])
  have hrc_goForward : rmL_goForward.cells = 2 := rfl
  have hrs_goForward : rmL_goForward.slots = 12 := rfl
  unfold mL_law_R664 at hf
  refine lv_iload hx hb dL_law_664 (lv_at hl 0 rfl) ?_
  refine lv_istore (lv' := [(11, .int l16), (16, .int l16), (15, va_rf (Option.map ta l15)), (14, .int l14), (12, .int l12), (10, .ref pv), (9, .int l9), (8, .int l8), (7, .ref nb), (6, .ref wa), (5, .ref rn), (3, .ref ua), (2, .int l2), (0, .ref sb)]) hx hb dL_law_666 hl (by decide) rfl ?_
  clear hl ls
  intro ls hl
  refine lv_iload hx hb dL_law_668 (lv_at hl 1 rfl) ?_
  replace hf := ob3_s hf
  obtain ⟨v1, Φ2, Ψ3, hJ4, hf⟩ := hf
  have kJ5 : ∀ (H : Heap) (locs : List Loc) (ls : Array Slot), Bd (dC, dI) [(cyI, .int), (cyB, .byte), (cyO, .object "UndoJourneys$World"), (cyA, .array .int), (cyT, .object "UndoJourneysLaw$Trip"), (cyW, .object "UndoJourneysLaw$World"), (cyZ, .boolean)] (va_A [] s.heap.size) s (wF [cU cyI cyB cyO ua ub up aw as' pa β υ ω sid τs n, [(bu, .inl (cyI, 8, .inl b))], cN rn sd, cX cyI cyA cyT wa ks ts kr ta sa ra K mT Ns ζ κ Φ2 Ψ3, [(nb, .inl (cyW, 9, .inr (.inr (.inr (.inr (fun j => (pb j).map pwa))))))], cXs cyI cyA cyT pwa pks pts pkr pta psa pra K mT Ns pζ pκ pΦ pΨ pc0]) H locs → lv_has ls 25 [(11, .int l16), (14, .int l14), (12, .int v1), (10, .ref pv), (9, .int l9), (8, .int l8), (7, .ref nb), (6, .ref wa), (5, .ref rn), (3, .ref ua), (2, .int l2), (0, .ref sb)] → W p l e room_1 s m #[Value.ref sb] below meth c H locs (c00 + 0) (s00 + 0) (lw_Z below #[Value.ref sb] s) (F0 m 823 ls []) := by
    clear hB hl ls locs H
    intro H locs ls hB hl
    refine lv_aload_n hx hb dL_law_823 rfl (lv_at hl 9 rfl) ?_
    refine lv_iload hx hb dL_law_824 (lv_at hl 1 rfl) ?_
    replace hf := ob1_s hf
    obtain ⟨o156, hc, hf⟩ := hf
    obtain ⟨hc, hE9⟩ := hEl_s hc
    replace hf := ob1_s hf
    obtain ⟨r157, er9, hf⟩ := hf
    replace er9 := inj1 er9
    replace hf := ob1_s hf
    obtain ⟨pa158, epa158, hf⟩ := hf
    replace epa158 := inj1 epa158
    replace hf := ob1_s hf
    obtain ⟨υ159, eυ159, hf⟩ := hf
    replace eυ159 := inj1 eυ159
    replace hf := ob1_s hf
    obtain ⟨ω160, eω160, hf⟩ := hf
    replace eω160 := inj1 eω160
    replace hf := ob1_s hf
    obtain ⟨sid161, esid161, hf⟩ := hf
    replace esid161 := inj1 esid161
    refine e_Wi (S := Unit) (As := [.ref ua, .int l14]) (rest := []) (wc := cU cyI cyB cyO ua ub up aw as' pa β υ ω sid τs n) (wr := (wF [[(bu, .inl (cyI, 8, .inl b))], cN rn sd, cX cyI cyA cyT wa ks ts kr ta sa ra K mT Ns ζ κ Φ2 Ψ3, [(nb, .inl (cyW, 9, .inr (.inr (.inr (.inr (fun j => (pb j).map pwa))))))], cXs cyI cyA cyT pwa pks pts pkr pta psa pra K mT Ns pζ pκ pΦ pΨ pc0])) (w1 := fun _ => xU (cU cyI cyB cyO ua ub up aw as' pa β υ ω sid τs n) (fun x => (cU cyI cyB cyO ua ub up aw as' (x.2.1) β (x.2.2.1) (x.2.2.2.1) (x.2.2.2.2) τs n)) o156) ⟨hx, hb, hml, hown, hts⟩ (kL_goForward l hl0 dC dI cyI cyB cyO cyA cyT cyW cyZ ua ub up aw as' kS H.size hc hE9) (vx_cwSW 2 hts (gv_L_goForward_251 hgb) rfl rfl rfl (by decide +kernel) ⟨(Nat.le_of_ble_eq_true rfl), (Nat.le_of_ble_eq_true rfl)⟩) (epre_left hEV (hB.perm (wperm (L' := [cU cyI cyB cyO ua ub up aw as' pa β υ ω sid τs n, [(bu, .inl (cyI, 8, .inl b))], cN rn sd, cX cyI cyA cyT wa ks ts kr ta sa ra K mT Ns ζ κ Φ2 Ψ3, [(nb, .inl (cyW, 9, .inr (.inr (.inr (.inr (fun j => (pb j).map pwa))))))], cXs cyI cyA cyT pwa pks pts pkr pta psa pra K mT Ns pζ pκ pΦ pΨ pc0]) [0, 1, 2, 3, 4, 5] (by decide +kernel) rfl rfl)) hA hK [.ref ua, .int l14]) hB hA (wperm (L' := [cU cyI cyB cyO ua ub up aw as' pa β υ ω sid τs n, [(bu, .inl (cyI, 8, .inl b))], cN rn sd, cX cyI cyA cyT wa ks ts kr ta sa ra K mT Ns ζ κ Φ2 Ψ3, [(nb, .inl (cyW, 9, .inr (.inr (.inr (.inr (fun j => (pb j).map pwa))))))], cXs cyI cyA cyT pwa pks pts pkr pta psa pra K mT Ns pζ pκ pΦ pΨ pc0]) [0, 1, 2, 3, 4, 5] (by decide +kernel) rfl rfl) rfl hl.1 rfl (Nat.le_of_ble_eq_true rfl) dL_law_826 ⟨Nat.le_trans (m := 500000) (by show _ ≤ 500000; omega) rm_c, Nat.le_trans (m := 6000000) (by show _ ≤ 6000000; omega) rm_s⟩ ?_
    clear hB locs H
    intro r9 _ H locs hr9 hB
    rw [hr9, er9]
    have e9 : xU (cU cyI cyB cyO ua ub up aw as' pa β υ ω sid τs n) (fun x => (cU cyI cyB cyO ua ub up aw as' (x.2.1) β (x.2.2.1) (x.2.2.2.1) (x.2.2.2.2) τs n)) o156 = cU cyI cyB cyO ua ub up aw as' pa158 β υ159 ω160 sid161 τs n := by rw [← epa158, ← eυ159, ← eω160, ← esid161]; cases o156 <;> rfl
    replace hB := (congrArg (fun z : va_W => Bd (dC, dI) [(cyI, .int), (cyB, .byte), (cyO, .object "UndoJourneys$World"), (cyA, .array .int), (cyT, .object "UndoJourneysLaw$Trip"), (cyW, .object "UndoJourneysLaw$World"), (cyZ, .boolean)] (va_A [] s.heap.size) s (z ++ (wF [[(bu, .inl (cyI, 8, .inl b))], cN rn sd, cX cyI cyA cyT wa ks ts kr ta sa ra K mT Ns ζ κ Φ2 Ψ3, [(nb, .inl (cyW, 9, .inr (.inr (.inr (.inr (fun j => (pb j).map pwa))))))], cXs cyI cyA cyT pwa pks pts pkr pta psa pra K mT Ns pζ pκ pΦ pΨ pc0])) H locs) e9).mp hB
    replace hB := hB.perm wF_un1
    replace hB := hB.perm (wperm (L' := [cU cyI cyB cyO ua ub up aw as' pa158 β υ159 ω160 sid161 τs n, [(bu, .inl (cyI, 8, .inl b))], cN rn sd, cX cyI cyA cyT wa ks ts kr ta sa ra K mT Ns ζ κ Φ2 Ψ3, [(nb, .inl (cyW, 9, .inr (.inr (.inr (.inr (fun j => (pb j).map pwa))))))], cXs cyI cyA cyT pwa pks pts pkr pta psa pra K mT Ns pζ pκ pΦ pΨ pc0]) [0, 1, 2, 3, 4, 5] (by decide +kernel) rfl rfl)
    refine lv_iload hx hb dL_law_829 (lv_at hl 2 rfl) ?_
    replace hf := ob1_s hf
    obtain ⟨v162, hJ164, hf⟩ := hf
    have kJ165 : (v162 = 0 ∨ v162 = 1) → ∀ (H : Heap) (locs : List Loc) (ls : Array Slot), Bd (dC, dI) [(cyI, .int), (cyB, .byte), (cyO, .object "UndoJourneys$World"), (cyA, .array .int), (cyT, .object "UndoJourneysLaw$Trip"), (cyW, .object "UndoJourneysLaw$World"), (cyZ, .boolean)] (va_A [] s.heap.size) s (wF [cU cyI cyB cyO ua ub up aw as' pa158 β υ159 ω160 sid161 τs n, [(bu, .inl (cyI, 8, .inl b))], cN rn sd, cX cyI cyA cyT wa ks ts kr ta sa ra K mT Ns ζ κ Φ2 Ψ3, [(nb, .inl (cyW, 9, .inr (.inr (.inr (.inr (fun j => (pb j).map pwa))))))], cXs cyI cyA cyT pwa pks pts pkr pta psa pra K mT Ns pζ pκ pΦ pΨ pc0]) H locs → lv_has ls 25 [(11, .int l16), (10, .ref pv), (9, .int l9), (8, .int l8), (7, .ref nb), (6, .ref wa), (5, .ref rn), (3, .ref ua), (2, .int l2), (0, .ref sb)] → W p l e room_1 s m #[Value.ref sb] below meth c H locs (c00 + 2) (s00 + 12) (lw_Z below #[Value.ref sb] s) (F0 m 839 ls [.int v162]) := by
      clear hB hl ls locs H
      intro z163 H locs ls hB hl
      refine lv_istore_n (lv' := [(1, .int v162), (11, .int l16), (10, .ref pv), (9, .int l9), (8, .int l8), (7, .ref nb), (6, .ref wa), (5, .ref rn), (3, .ref ua), (2, .int l2), (0, .ref sb)]) hx hb dL_law_839 rfl hl (by decide) rfl ?_
      clear hl ls
      intro ls hl
      refine lv_goto (tgt := 954) hx hb dL_law_840 (by decide) ?_
      obtain ⟨e0, e1, e2, e3, e4, e5, e6, e7⟩ := inj8 hf
      subst e0
      subst e1
      subst e2
      subst e3
      subst e4
      subst e5
      subst e6
      subst e7
      exact nxt _ _ _ hB (lv_sub hl [1, 2, 3, 4, 5, 6, 7, 8, 9, 0, 10] rfl)
    refine lv_icmp_ne (tgt := 838) hx hb dL_law_831 (by decide) (fun c166 => ?_) (fun c166 => ?_)
    · replace hJ164 := ite_f c166 hJ164
      refine lv_iconst (v := (0 : Int32)) hx hb dL_law_838 (by decide) ?_
      have e0 := inj1 hJ164
      subst e0
      exact kJ165 (Or.inl rfl) _ _ _ hB (lv_sub hl [0, 3, 4, 5, 6, 7, 8, 9, 10, 11] rfl)
    · replace hJ164 := ite_t c166 hJ164
      refine lv_iconst (v := (1 : Int32)) hx hb dL_law_834 (by decide) ?_
      refine lv_goto (tgt := 839) hx hb dL_law_835 (by decide) ?_
      have e0 := inj1 hJ164
      subst e0
      exact kJ165 (Or.inr rfl) _ _ _ hB (lv_sub hl [0, 3, 4, 5, 6, 7, 8, 9, 10, 11] rfl)
  refine lv_if_eq (tgt := 823) hx hb dL_law_670 (by decide) (fun c6 => ?_) (fun c6 => ?_)
  · replace hJ4 := ite_t c6 hJ4
    obtain ⟨e0, e1, e2⟩ := inj3 hJ4
    subst e0
    subst e1
    subst e2
    exact kJ5 _ _ _ hB (lv_sub hl [0, 3, 4, 5, 6, 7, 8, 9, 10, 11, 12, 13] rfl)
  · replace hJ4 := ite_f c6 hJ4
    refine lv_iconst (v := (0 : Int32)) hx hb dL_law_673 (by decide) ?_
    refine lv_istore (lv' := [(20, .int (0 : Int32)), (11, .int l16), (16, .int l16), (15, va_rf (Option.map ta l15)), (14, .int l14), (12, .int l12), (10, .ref pv), (9, .int l9), (8, .int l8), (7, .ref nb), (6, .ref wa), (5, .ref rn), (3, .ref ua), (2, .int l2), (0, .ref sb)]) hx hb dL_law_674 hl (by decide) rfl ?_
    clear hl ls
    intro ls hl
    replace hJ4 := ob1_s hJ4
    obtain ⟨v43, hL46, hJ4⟩ := hJ4
    have kE44 : ∀  (H : Heap) (locs : List Loc) (ls : Array Slot), Bd (dC, dI) [(cyI, .int), (cyB, .byte), (cyO, .object "UndoJourneys$World"), (cyA, .array .int), (cyT, .object "UndoJourneysLaw$Trip"), (cyW, .object "UndoJourneysLaw$World"), (cyZ, .boolean)] (va_A [] s.heap.size) s (wF [cU cyI cyB cyO ua ub up aw as' pa β υ ω sid τs n, [(bu, .inl (cyI, 8, .inl b))], cN rn sd, cX cyI cyA cyT wa ks ts kr ta sa ra K mT Ns ζ κ Φ Ψ, [(nb, .inl (cyW, 9, .inr (.inr (.inr (.inr (fun j => (pb j).map pwa))))))], cXs cyI cyA cyT pwa pks pts pkr pta psa pra K mT Ns pζ pκ pΦ pΨ pc0]) H locs → lv_has ls 25 [(20, .int v43), (11, .int l16), (15, va_rf (Option.map ta l15)), (14, .int l14), (10, .ref pv), (9, .int l9), (8, .int l8), (7, .ref nb), (6, .ref wa), (5, .ref rn), (3, .ref ua), (2, .int l2), (0, .ref sb)] → W p l e room_1 s m #[Value.ref sb] below meth c H locs (c00 + 0) (s00 + 0) (lw_Z below #[Value.ref sb] s) (F0 m 702 ls []) := by
      clear hB hl ls locs H
      intro H locs ls hB hl
      refine lv_iload hx hb dL_law_702 (lv_at hl 0 rfl) ?_
      refine lv_aloadR hx hb dL_law_704 (lv_at hl 2 rfl) ?_
      replace hJ4 := ob1_s hJ4
      obtain ⟨j48, ej48, hJ4⟩ := hJ4
      replace hJ4 := ob1_s hJ4
      obtain ⟨_, h_j48, hJ4⟩ := hJ4
      replace h_j48 := gLt_s h_j48
      rw [show va_rf (Option.map ta l15) = Value.ref (ta j48) from by rw [ej48]; rfl]
      refine g_get (C := RX5) (T := TX5) (N := 7) hx hb hts hinX5 hown hK ((hB.perm (wperm (L' := [cX cyI cyA cyT wa ks ts kr ta sa ra K mT Ns ζ κ Φ Ψ, cU cyI cyB cyO ua ub up aw as' pa β υ ω sid τs n, [(bu, .inl (cyI, 8, .inl b))], cN rn sd, [(nb, .inl (cyW, 9, .inr (.inr (.inr (.inr (fun j => (pb j).map pwa))))))], cXs cyI cyA cyT pwa pks pts pkr pta psa pra K mT Ns pζ pκ pΦ pΨ pc0]) [3, 0, 1, 2, 4, 5] (by decide +kernel) rfl rfl)).perm (cX_viewr cyI cyA cyT wa ks ts kr ta sa ra K mT Ns ζ κ Φ Ψ h_j48 _)) 0 rfl rfl 1 rfl hq0 rfl rfl dL_law_706 ?_
      replace hJ4 := ob1_s hJ4
      obtain ⟨v49, hJ50, hJ4⟩ := hJ4
      have kJ51 : ∀ (H : Heap) (locs : List Loc) (ls : Array Slot), Bd (dC, dI) [(cyI, .int), (cyB, .byte), (cyO, .object "UndoJourneys$World"), (cyA, .array .int), (cyT, .object "UndoJourneysLaw$Trip"), (cyW, .object "UndoJourneysLaw$World"), (cyZ, .boolean)] (va_A [] s.heap.size) s (wF [cU cyI cyB cyO ua ub up aw as' pa β υ ω sid τs n, [(bu, .inl (cyI, 8, .inl b))], cN rn sd, cX cyI cyA cyT wa ks ts kr ta sa ra K mT Ns ζ κ Φ Ψ, [(nb, .inl (cyW, 9, .inr (.inr (.inr (.inr (fun j => (pb j).map pwa))))))], cXs cyI cyA cyT pwa pks pts pkr pta psa pra K mT Ns pζ pκ pΦ pΨ pc0]) H locs → lv_has ls 25 [(20, .int v43), (11, .int l16), (15, va_rf (Option.map ta l15)), (14, .int l14), (10, .ref pv), (9, .int l9), (8, .int l8), (7, .ref nb), (6, .ref wa), (5, .ref rn), (3, .ref ua), (2, .int l2), (0, .ref sb)] → W p l e room_1 s m #[Value.ref sb] below meth c H locs (c00 + 0) (s00 + 0) (lw_Z below #[Value.ref sb] s) (F0 m 718 ls [.int v49]) := by
        clear hB hl ls locs H
        intro H locs ls hB hl
        refine lv_istore (lv' := [(12, .int v49), (20, .int v43), (11, .int l16), (15, va_rf (Option.map ta l15)), (14, .int l14), (10, .ref pv), (9, .int l9), (8, .int l8), (7, .ref nb), (6, .ref wa), (5, .ref rn), (3, .ref ua), (2, .int l2), (0, .ref sb)]) hx hb dL_law_718 hl (by decide) rfl ?_
        clear hl ls
        intro ls hl
        refine lv_iload hx hb dL_law_720 (lv_at hl 0 rfl) ?_
        refine lv_if_lt (tgt := 823) hx hb dL_law_722 (by decide) (fun c53 => ?_) (fun c53 => ?_)
        · replace hJ4 := ite_t c53 hJ4
          obtain ⟨e0, e1, e2⟩ := inj3 hJ4
          subst e0
          subst e1
          subst e2
          exact kJ5 _ _ _ hB (lv_sub hl [2, 4, 0, 5, 6, 7, 8, 9, 10, 11, 12, 13] rfl)
        · replace hJ4 := ite_f c53 hJ4
          refine lv_aloadR hx hb dL_law_725 (lv_at hl 3 rfl) ?_
          replace hJ4 := ob1_s hJ4
          obtain ⟨j54, ej54, hJ4⟩ := hJ4
          replace hJ4 := ob1_s hJ4
          obtain ⟨_, h_j54, hJ4⟩ := hJ4
          replace h_j54 := gLt_s h_j54
          rw [show va_rf (Option.map ta l15) = Value.ref (ta j54) from by rw [ej54]; rfl]
          refine g_get (C := RX5) (T := TX5) (N := 7) hx hb hts hinX5 hown hK ((hB.perm (wperm (L' := [cX cyI cyA cyT wa ks ts kr ta sa ra K mT Ns ζ κ Φ Ψ, cU cyI cyB cyO ua ub up aw as' pa β υ ω sid τs n, [(bu, .inl (cyI, 8, .inl b))], cN rn sd, [(nb, .inl (cyW, 9, .inr (.inr (.inr (.inr (fun j => (pb j).map pwa))))))], cXs cyI cyA cyT pwa pks pts pkr pta psa pra K mT Ns pζ pκ pΦ pΨ pc0]) [3, 0, 1, 2, 4, 5] (by decide +kernel) rfl rfl)).perm (cX_viewr cyI cyA cyT wa ks ts kr ta sa ra K mT Ns ζ κ Φ Ψ h_j54 _)) 0 rfl rfl 6 rfl hq1 rfl rfl dL_law_727 ?_
          refine lv_astore (lv' := [(21, .ref (sa j54)), (12, .int v49), (20, .int v43), (11, .int l16), (15, va_rf (Option.map ta l15)), (14, .int l14), (10, .ref pv), (9, .int l9), (8, .int l8), (7, .ref nb), (6, .ref wa), (5, .ref rn), (3, .ref ua), (2, .int l2), (0, .ref sb)]) hx hb dL_law_730 hl (by decide) rfl ?_
          clear hl ls
          intro ls hl
          refine lv_aload hx hb dL_law_732 (lv_at hl 0 rfl) ?_
          refine g_alen hx hb hK ((hB.perm (wperm (L' := [cX cyI cyA cyT wa ks ts kr ta sa ra K mT Ns ζ κ Φ Ψ, cU cyI cyB cyO ua ub up aw as' pa β υ ω sid τs n, [(bu, .inl (cyI, 8, .inl b))], cN rn sd, [(nb, .inl (cyW, 9, .inr (.inr (.inr (.inr (fun j => (pb j).map pwa))))))], cXs cyI cyA cyT pwa pks pts pkr pta psa pra K mT Ns pζ pκ pΦ pΨ pc0]) [3, 0, 1, 2, 4, 5] (by decide +kernel) rfl rfl)).perm (cX_viewr cyI cyA cyT wa ks ts kr ta sa ra K mT Ns ζ κ Φ Ψ h_j54 _)) 1 3 rfl rfl (v := (nI (Ns j54))) rfl dL_law_734 ?_
          refine lv_istore (lv' := [(22, .int (nI (Ns j54))), (21, .ref (sa j54)), (12, .int v49), (20, .int v43), (11, .int l16), (15, va_rf (Option.map ta l15)), (14, .int l14), (10, .ref pv), (9, .int l9), (8, .int l8), (7, .ref nb), (6, .ref wa), (5, .ref rn), (3, .ref ua), (2, .int l2), (0, .ref sb)]) hx hb dL_law_735 hl (by decide) rfl ?_
          clear hl ls
          intro ls hl
          refine lv_iconst (v := (0 : Int32)) hx hb dL_law_737 (by decide) ?_
          refine lv_istore (lv' := [(23, .int (0 : Int32)), (22, .int (nI (Ns j54))), (21, .ref (sa j54)), (12, .int v49), (20, .int v43), (11, .int l16), (15, va_rf (Option.map ta l15)), (14, .int l14), (10, .ref pv), (9, .int l9), (8, .int l8), (7, .ref nb), (6, .ref wa), (5, .ref rn), (3, .ref ua), (2, .int l2), (0, .ref sb)]) hx hb dL_law_738 hl (by decide) rfl ?_
          clear hl ls
          intro ls hl
          replace hJ4 := ob1_s hJ4
          obtain ⟨Ψ103, hL106, hJ4⟩ := hJ4
          have kE104 : ∀  (H : Heap) (locs : List Loc) (ls : Array Slot), Bd (dC, dI) [(cyI, .int), (cyB, .byte), (cyO, .object "UndoJourneys$World"), (cyA, .array .int), (cyT, .object "UndoJourneysLaw$Trip"), (cyW, .object "UndoJourneysLaw$World"), (cyZ, .boolean)] (va_A [] s.heap.size) s (wF [cU cyI cyB cyO ua ub up aw as' pa β υ ω sid τs n, [(bu, .inl (cyI, 8, .inl b))], cN rn sd, cX cyI cyA cyT wa ks ts kr ta sa ra K mT Ns ζ κ Φ Ψ103, [(nb, .inl (cyW, 9, .inr (.inr (.inr (.inr (fun j => (pb j).map pwa))))))], cXs cyI cyA cyT pwa pks pts pkr pta psa pra K mT Ns pζ pκ pΦ pΨ pc0]) H locs → lv_has ls 25 [(12, .int v49), (20, .int v43), (11, .int l16), (15, va_rf (Option.map ta l15)), (14, .int l14), (10, .ref pv), (9, .int l9), (8, .int l8), (7, .ref nb), (6, .ref wa), (5, .ref rn), (3, .ref ua), (2, .int l2), (0, .ref sb)] → W p l e room_1 s m #[Value.ref sb] below meth c H locs (c00 + 0) (s00 + 0) (lw_Z below #[Value.ref sb] s) (F0 m 804 ls []) := by
            clear hB hl ls locs H
            intro H locs ls hB hl
            refine lv_aloadR hx hb dL_law_804 (lv_at hl 3 rfl) ?_
            refine lv_iconst (v := (1 : Int32)) hx hb dL_law_806 (by decide) ?_
            replace hJ4 := ob1_s hJ4
            obtain ⟨j108, ej108, hJ4⟩ := hJ4
            replace hJ4 := ob1_s hJ4
            obtain ⟨_, h_j108, hJ4⟩ := hJ4
            replace h_j108 := gLt_s h_j108
            rw [show va_rf (Option.map ta l15) = Value.ref (ta j108) from by rw [ej108]; rfl]
            replace hJ4 := ob1_s hJ4
            obtain ⟨φ109, e9, hJ4⟩ := hJ4
            replace e9 := inj1 e9
            replace hJ4 := ob1_s hJ4
            obtain ⟨Φ110, e8, hJ4⟩ := hJ4
            replace e8 := inj1 e8
            refine g_put (C := RX5) (T := TX5) (N := 7) hx hb hts hinX5 tyX5 tyX5_ok nmX5 hown hK ((hB.perm (wperm (L' := [cX cyI cyA cyT wa ks ts kr ta sa ra K mT Ns ζ κ Φ Ψ103, cU cyI cyB cyO ua ub up aw as' pa β υ ω sid τs n, [(bu, .inl (cyI, 8, .inl b))], cN rn sd, [(nb, .inl (cyW, 9, .inr (.inr (.inr (.inr (fun j => (pb j).map pwa))))))], cXs cyI cyA cyT pwa pks pts pkr pta psa pra K mT Ns pζ pκ pΦ pΨ pc0]) [3, 0, 1, 2, 4, 5] (by decide +kernel) rfl rfl)).perm (cX_viewr cyI cyA cyT wa ks ts kr ta sa ra K mT Ns ζ κ Φ Ψ103 h_j108 _)) 0 rfl rfl 2 rfl hq2 rfl rfl rfl rfl rfl rfl dL_law_807 (w2 := cT cyI cyA (ta j108) (sa j108) (ra j108) (Ns j108) φ109 (Ψ103 j108) ++ (rX cyI cyA cyT wa ks ts kr ta sa ra K mT Ns ζ κ Φ Ψ103 j108 ++ (wF [cU cyI cyB cyO ua ub up aw as' pa β υ ω sid τs n, [(bu, .inl (cyI, 8, .inl b))], cN rn sd, [(nb, .inl (cyW, 9, .inr (.inr (.inr (.inr (fun j => (pb j).map pwa))))))], cXs cyI cyA cyT pwa pks pts pkr pta psa pra K mT Ns pζ pκ pΦ pΨ pc0]))) (by rw [← e9]; rfl) ?_
            clear hB locs H
            intro H locs hB
            replace hB := hB.perm (cX_brF cyI cyA cyT wa ks ts kr ta sa ra K mT Ns ζ κ Φ Ψ103 h_j108 φ109 _)
            rw [e8] at hB
            replace hB := hB.perm wF_un1
            replace hB := hB.perm (wperm (L' := [cU cyI cyB cyO ua ub up aw as' pa β υ ω sid τs n, [(bu, .inl (cyI, 8, .inl b))], cN rn sd, cX cyI cyA cyT wa ks ts kr ta sa ra K mT Ns ζ κ Φ110 Ψ103, [(nb, .inl (cyW, 9, .inr (.inr (.inr (.inr (fun j => (pb j).map pwa))))))], cXs cyI cyA cyT pwa pks pts pkr pta psa pra K mT Ns pζ pκ pΦ pΨ pc0]) [1, 2, 3, 0, 4, 5] (by decide +kernel) rfl rfl)
            refine lv_aloadR hx hb dL_law_810 (lv_at hl 3 rfl) ?_
            refine lv_iconst (v := (-1 : Int32)) hx hb dL_law_812 (by decide) ?_
            replace hJ4 := ob1_s hJ4
            obtain ⟨j111, ej111, hJ4⟩ := hJ4
            replace hJ4 := ob1_s hJ4
            obtain ⟨_, h_j111, hJ4⟩ := hJ4
            replace h_j111 := gLt_s h_j111
            rw [show va_rf (Option.map ta l15) = Value.ref (ta j111) from by rw [ej111]; rfl]
            replace hJ4 := ob1_s hJ4
            obtain ⟨φ112, e9, hJ4⟩ := hJ4
            replace e9 := inj1 e9
            replace hJ4 := ob1_s hJ4
            obtain ⟨Φ113, e8, hJ4⟩ := hJ4
            replace e8 := inj1 e8
            refine g_put (C := RX5) (T := TX5) (N := 7) hx hb hts hinX5 tyX5 tyX5_ok nmX5 hown hK ((hB.perm (wperm (L' := [cX cyI cyA cyT wa ks ts kr ta sa ra K mT Ns ζ κ Φ110 Ψ103, cU cyI cyB cyO ua ub up aw as' pa β υ ω sid τs n, [(bu, .inl (cyI, 8, .inl b))], cN rn sd, [(nb, .inl (cyW, 9, .inr (.inr (.inr (.inr (fun j => (pb j).map pwa))))))], cXs cyI cyA cyT pwa pks pts pkr pta psa pra K mT Ns pζ pκ pΦ pΨ pc0]) [3, 0, 1, 2, 4, 5] (by decide +kernel) rfl rfl)).perm (cX_viewr cyI cyA cyT wa ks ts kr ta sa ra K mT Ns ζ κ Φ110 Ψ103 h_j111 _)) 0 rfl rfl 4 rfl hq3 rfl rfl rfl rfl rfl rfl dL_law_813 (w2 := cT cyI cyA (ta j111) (sa j111) (ra j111) (Ns j111) φ112 (Ψ103 j111) ++ (rX cyI cyA cyT wa ks ts kr ta sa ra K mT Ns ζ κ Φ110 Ψ103 j111 ++ (wF [cU cyI cyB cyO ua ub up aw as' pa β υ ω sid τs n, [(bu, .inl (cyI, 8, .inl b))], cN rn sd, [(nb, .inl (cyW, 9, .inr (.inr (.inr (.inr (fun j => (pb j).map pwa))))))], cXs cyI cyA cyT pwa pks pts pkr pta psa pra K mT Ns pζ pκ pΦ pΨ pc0]))) (by rw [← e9]; rfl) ?_
            clear hB locs H
            intro H locs hB
            replace hB := hB.perm (cX_brF cyI cyA cyT wa ks ts kr ta sa ra K mT Ns ζ κ Φ110 Ψ103 h_j111 φ112 _)
            rw [e8] at hB
            replace hB := hB.perm wF_un1
            replace hB := hB.perm (wperm (L' := [cU cyI cyB cyO ua ub up aw as' pa β υ ω sid τs n, [(bu, .inl (cyI, 8, .inl b))], cN rn sd, cX cyI cyA cyT wa ks ts kr ta sa ra K mT Ns ζ κ Φ113 Ψ103, [(nb, .inl (cyW, 9, .inr (.inr (.inr (.inr (fun j => (pb j).map pwa))))))], cXs cyI cyA cyT pwa pks pts pkr pta psa pra K mT Ns pζ pκ pΦ pΨ pc0]) [1, 2, 3, 0, 4, 5] (by decide +kernel) rfl rfl)
            refine lv_aloadR hx hb dL_law_816 (lv_at hl 3 rfl) ?_
            refine lv_iload hx hb dL_law_818 (lv_at hl 1 rfl) ?_
            replace hJ4 := ob1_s hJ4
            obtain ⟨j114, ej114, hJ4⟩ := hJ4
            replace hJ4 := ob1_s hJ4
            obtain ⟨_, h_j114, hJ4⟩ := hJ4
            replace h_j114 := gLt_s h_j114
            rw [show va_rf (Option.map ta l15) = Value.ref (ta j114) from by rw [ej114]; rfl]
            replace hJ4 := ob2_s hJ4
            obtain ⟨φ115, ψ116, hc, hJ4⟩ := hJ4
            refine e_Vv (S := Unit) (As := [.int v43]) (rest := []) (wc := cT cyI cyA (ta j114) (sa j114) (ra j114) (Ns j114) (Φ113 j114) (Ψ103 j114)) (wr := (rX cyI cyA cyT wa ks ts kr ta sa ra K mT Ns ζ κ Φ113 Ψ103 j114 ++ (wF [cU cyI cyB cyO ua ub up aw as' pa β υ ω sid τs n, [(bu, .inl (cyI, 8, .inl b))], cN rn sd, [(nb, .inl (cyW, 9, .inr (.inr (.inr (.inr (fun j => (pb j).map pwa))))))], cXs cyI cyA cyT pwa pks pts pkr pta psa pra K mT Ns pζ pκ pΦ pΨ pc0]))) (w1 := fun _ => cT cyI cyA (ta j114) (sa j114) (ra j114) (Ns j114) φ115 ψ116) ⟨hx, hb, hml, hown, hts⟩ (kX5_opens l dC dI cyI cyA (ta j114) (sa j114) (ra j114) H.size hc) (cwV 1 hts (gv_X5_opens_248 hgb) rfl rfl rfl (by decide +kernel) ⟨(Nat.le_of_ble_eq_true rfl), (Nat.le_of_ble_eq_true rfl)⟩) (pcut_pre (hB.perm ((wperm (L' := [cX cyI cyA cyT wa ks ts kr ta sa ra K mT Ns ζ κ Φ113 Ψ103, cU cyI cyB cyO ua ub up aw as' pa β υ ω sid τs n, [(bu, .inl (cyI, 8, .inl b))], cN rn sd, [(nb, .inl (cyW, 9, .inr (.inr (.inr (.inr (fun j => (pb j).map pwa))))))], cXs cyI cyA cyT pwa pks pts pkr pta psa pra K mT Ns pζ pκ pΦ pΨ pc0]) [3, 0, 1, 2, 4, 5] (by decide +kernel) rfl rfl).trans (cX_viewr cyI cyA cyT wa ks ts kr ta sa ra K mT Ns ζ κ Φ113 Ψ103 h_j114 _))) (hK.sub [0, 3] rfl) (.ref (ta j114) :: [.int v43])) hB hA (g_recv (ci := 5) hK (hB.perm ((wperm (L' := [cX cyI cyA cyT wa ks ts kr ta sa ra K mT Ns ζ κ Φ113 Ψ103, cU cyI cyB cyO ua ub up aw as' pa β υ ω sid τs n, [(bu, .inl (cyI, 8, .inl b))], cN rn sd, [(nb, .inl (cyW, 9, .inr (.inr (.inr (.inr (fun j => (pb j).map pwa))))))], cXs cyI cyA cyT pwa pks pts pkr pta psa pra K mT Ns pζ pκ pΦ pΨ pc0]) [3, 0, 1, 2, 4, 5] (by decide +kernel) rfl rfl).trans (cX_viewr cyI cyA cyT wa ks ts kr ta sa ra K mT Ns ζ κ Φ113 Ψ103 h_j114 _))) 0 rfl rfl rfl) ((wperm (L' := [cX cyI cyA cyT wa ks ts kr ta sa ra K mT Ns ζ κ Φ113 Ψ103, cU cyI cyB cyO ua ub up aw as' pa β υ ω sid τs n, [(bu, .inl (cyI, 8, .inl b))], cN rn sd, [(nb, .inl (cyW, 9, .inr (.inr (.inr (.inr (fun j => (pb j).map pwa))))))], cXs cyI cyA cyT pwa pks pts pkr pta psa pra K mT Ns pζ pκ pΦ pΨ pc0]) [3, 0, 1, 2, 4, 5] (by decide +kernel) rfl rfl).trans (cX_viewr cyI cyA cyT wa ks ts kr ta sa ra K mT Ns ζ κ Φ113 Ψ103 h_j114 _)) rfl hl.1 rfl (Nat.le_of_ble_eq_true rfl) dL_law_820 ⟨Nat.le_trans (m := 500000) (by show _ ≤ 500000; omega) rm_c, Nat.le_trans (m := 6000000) (by show _ ≤ 6000000; omega) rm_s⟩ ?_
            clear hB locs H
            intro _ H locs hr9 hB
            replace hJ4 := ob1_s hJ4
            obtain ⟨Φ117, eΦ117, hJ4⟩ := hJ4
            replace eΦ117 := inj1 eΦ117
            replace hJ4 := ob1_s hJ4
            obtain ⟨Ψ118, eΨ118, hJ4⟩ := hJ4
            replace eΨ118 := inj1 eΨ118
            replace hB := hB.perm (cX_br cyI cyA cyT wa ks ts kr ta sa ra K mT Ns ζ κ Φ113 Ψ103 h_j114 φ115 ψ116 _)
            rw [eΦ117, eΨ118] at hB
            replace hB := hB.perm wF_un1
            replace hB := hB.perm (wperm (L' := [cU cyI cyB cyO ua ub up aw as' pa β υ ω sid τs n, [(bu, .inl (cyI, 8, .inl b))], cN rn sd, cX cyI cyA cyT wa ks ts kr ta sa ra K mT Ns ζ κ Φ117 Ψ118, [(nb, .inl (cyW, 9, .inr (.inr (.inr (.inr (fun j => (pb j).map pwa))))))], cXs cyI cyA cyT pwa pks pts pkr pta psa pra K mT Ns pζ pκ pΦ pΨ pc0]) [1, 2, 3, 0, 4, 5] (by decide +kernel) rfl rfl)
            obtain ⟨e0, e1, e2⟩ := inj3 hJ4
            subst e0
            subst e1
            subst e2
            exact kJ5 _ _ _ hB (lv_sub hl [2, 4, 0, 5, 6, 7, 8, 9, 10, 11, 12, 13] rfl)
          have key105 : ∀ (n9 : Nat) (v120 : Int32) (Ψ121 : WS)  (H : Heap) (locs : List Loc) (ls : Array Slot), loopM (fun st => mL_law_L740 fu K mT Ns (nI (Ns j54)) j54 v49 v43 l16 l15 l14 l9 l8 l2 τs n pa β υ ω sid b sd ζ κ Φ pb pζ pκ pΦ pΨ pc0 st.1 st.2) n9 (v120, Ψ121) = some Ψ103 → Bd (dC, dI) [(cyI, .int), (cyB, .byte), (cyO, .object "UndoJourneys$World"), (cyA, .array .int), (cyT, .object "UndoJourneysLaw$Trip"), (cyW, .object "UndoJourneysLaw$World"), (cyZ, .boolean)] (va_A [] s.heap.size) s (wF [cU cyI cyB cyO ua ub up aw as' pa β υ ω sid τs n, [(bu, .inl (cyI, 8, .inl b))], cN rn sd, cX cyI cyA cyT wa ks ts kr ta sa ra K mT Ns ζ κ Φ Ψ121, [(nb, .inl (cyW, 9, .inr (.inr (.inr (.inr (fun j => (pb j).map pwa))))))], cXs cyI cyA cyT pwa pks pts pkr pta psa pra K mT Ns pζ pκ pΦ pΨ pc0]) H locs → lv_has ls 25 [(23, .int v120), (22, .int (nI (Ns j54))), (21, .ref (sa j54)), (12, .int v49), (20, .int v43), (11, .int l16), (15, va_rf (Option.map ta l15)), (14, .int l14), (10, .ref pv), (9, .int l9), (8, .int l8), (7, .ref nb), (6, .ref wa), (5, .ref rn), (3, .ref ua), (2, .int l2), (0, .ref sb)] → W p l e room_1 s m #[Value.ref sb] below meth c H locs (c00 + 0) (s00 + 0) (lw_Z below #[Value.ref sb] s) (F0 m 740 ls []) := by
            clear hB hl ls locs H
            intro n9
            induction n9 with
            | zero => intro v120 Ψ121 H locs ls hL106; exact (loopM_z hL106).elim
            | succ n9 ih9 =>
              intro v120 Ψ121 H locs ls hL106 hB hl
              replace hL106 := loopM_s hL106
              obtain ⟨o123, hg107, hL106⟩ := hL106
              have hg107 : mL_law_L740 fu K mT Ns (nI (Ns j54)) j54 v49 v43 l16 l15 l14 l9 l8 l2 τs n pa β υ ω sid b sd ζ κ Φ pb pζ pκ pΦ pΨ pc0 v120 Ψ121 = some o123 := hg107
              unfold mL_law_L740 at hg107
              refine lv_iload hx hb dL_law_740 (lv_at hl 0 rfl) ?_
              refine lv_iload hx hb dL_law_742 (lv_at hl 1 rfl) ?_
              refine lv_icmp_ge (tgt := 804) hx hb dL_law_744 (by decide) (fun c125 => ?_) (fun c125 => ?_)
              · replace hg107 := ite_t c125 hg107
                replace hL106 := el1_l (inj1 hg107) hL106
                have e0 := inj1 hL106
                subst e0
                exact kE104 _ _ _ hB (lv_sub hl [3, 4, 5, 6, 7, 8, 9, 10, 11, 12, 13, 14, 15, 16] rfl)
              · replace hg107 := ite_f c125 hg107
                refine lv_aload hx hb dL_law_747 (lv_at hl 2 rfl) ?_
                refine lv_iload hx hb dL_law_749 (lv_at hl 0 rfl) ?_
                replace hg107 := ob1_s hg107
                obtain ⟨j126, e9, hg107⟩ := hg107
                obtain ⟨h_j126, e9⟩ := hixn_s e9
                refine g_aald hx hb hK ((hB.perm (wperm (L' := [cX cyI cyA cyT wa ks ts kr ta sa ra K mT Ns ζ κ Φ Ψ121, cU cyI cyB cyO ua ub up aw as' pa β υ ω sid τs n, [(bu, .inl (cyI, 8, .inl b))], cN rn sd, [(nb, .inl (cyW, 9, .inr (.inr (.inr (.inr (fun j => (pb j).map pwa))))))], cXs cyI cyA cyT pwa pks pts pkr pta psa pra K mT Ns pζ pκ pΦ pΨ pc0]) [3, 0, 1, 2, 4, 5] (by decide +kernel) rfl rfl)).perm (cX_viewr cyI cyA cyT wa ks ts kr ta sa ra K mT Ns ζ κ Φ Ψ121 h_j54 _)) 1 3 rfl rfl e9 dL_law_751 ?_
                refine lv_astore (lv' := [(24, .ref (ra j54 j126)), (23, .int v120), (22, .int (nI (Ns j54))), (21, .ref (sa j54)), (12, .int v49), (20, .int v43), (11, .int l16), (15, va_rf (Option.map ta l15)), (14, .int l14), (10, .ref pv), (9, .int l9), (8, .int l8), (7, .ref nb), (6, .ref wa), (5, .ref rn), (3, .ref ua), (2, .int l2), (0, .ref sb)]) hx hb dL_law_752 hl (by decide) rfl ?_
                clear hl ls
                intro ls hl
                refine lv_aload hx hb dL_law_754 (lv_at hl 0 rfl) ?_
                refine lv_iconst (v := (0 : Int32)) hx hb dL_law_756 (by decide) ?_
                replace hg107 := ob1_s hg107
                obtain ⟨x127, e9, hg107⟩ := hg107
                refine g_iald hx hb hK ((hB.perm (wperm (L' := [cX cyI cyA cyT wa ks ts kr ta sa ra K mT Ns ζ κ Φ Ψ121, cU cyI cyB cyO ua ub up aw as' pa β υ ω sid τs n, [(bu, .inl (cyI, 8, .inl b))], cN rn sd, [(nb, .inl (cyW, 9, .inr (.inr (.inr (.inr (fun j => (pb j).map pwa))))))], cXs cyI cyA cyT pwa pks pts pkr pta psa pra K mT Ns pζ pκ pΦ pΨ pc0]) [3, 0, 1, 2, 4, 5] (by decide +kernel) rfl rfl)).perm (cX_viewr cyI cyA cyT wa ks ts kr ta sa ra K mT Ns ζ κ Φ Ψ121 h_j54 _)) (2 + j126) 0 (cT_row cyI cyA (ta j54) (sa j54) (ra j54) (Ns j54) (Φ j54) (Ψ121 j54) _ h_j126) rfl (rd_s e9) dL_law_757 ?_
                refine lv_iload hx hb dL_law_758 (lv_at hl 5 rfl) ?_
                replace hg107 := ob1_s hg107
                obtain ⟨Ψ128, hJ129, hg107⟩ := hg107
                have kJ130 : ∀ (H : Heap) (locs : List Loc) (ls : Array Slot), Bd (dC, dI) [(cyI, .int), (cyB, .byte), (cyO, .object "UndoJourneys$World"), (cyA, .array .int), (cyT, .object "UndoJourneysLaw$Trip"), (cyW, .object "UndoJourneysLaw$World"), (cyZ, .boolean)] (va_A [] s.heap.size) s (wF [cU cyI cyB cyO ua ub up aw as' pa β υ ω sid τs n, [(bu, .inl (cyI, 8, .inl b))], cN rn sd, cX cyI cyA cyT wa ks ts kr ta sa ra K mT Ns ζ κ Φ Ψ128, [(nb, .inl (cyW, 9, .inr (.inr (.inr (.inr (fun j => (pb j).map pwa))))))], cXs cyI cyA cyT pwa pks pts pkr pta psa pra K mT Ns pζ pκ pΦ pΨ pc0]) H locs → lv_has ls 25 [(23, .int v120), (22, .int (nI (Ns j54))), (21, .ref (sa j54)), (12, .int v49), (20, .int v43), (11, .int l16), (15, va_rf (Option.map ta l15)), (14, .int l14), (10, .ref pv), (9, .int l9), (8, .int l8), (7, .ref nb), (6, .ref wa), (5, .ref rn), (3, .ref ua), (2, .int l2), (0, .ref sb)] → W p l e room_1 s m #[Value.ref sb] below meth c H locs (c00 + 0) (s00 + 0) (lw_Z below #[Value.ref sb] s) (F0 m 798 ls []) := by
                  clear hB hl ls locs H
                  intro H locs ls hB hl
                  refine lv_iinc (v := (v120 + (1 : Int32))) (lv' := [(23, .int (v120 + (1 : Int32))), (22, .int (nI (Ns j54))), (21, .ref (sa j54)), (12, .int v49), (20, .int v43), (11, .int l16), (15, va_rf (Option.map ta l15)), (14, .int l14), (10, .ref pv), (9, .int l9), (8, .int l8), (7, .ref nb), (6, .ref wa), (5, .ref rn), (3, .ref ua), (2, .int l2), (0, .ref sb)]) hx hb dL_law_798 hl (k := 0) rfl rfl (by decide) rfl ?_
                  clear hl ls
                  intro ls hl
                  refine lv_goto (tgt := 740) hx hb dL_law_801 (by decide) ?_
                  replace hL106 := el1_r (inj1 hg107) hL106
                  exact ih9 _ _ _ _ _ hL106 hB (lv_sub hl [0, 1, 2, 3, 4, 5, 6, 7, 8, 9, 10, 11, 12, 13, 14, 15, 16] rfl)
                replace hJ129 := ob1_s hJ129
                obtain ⟨t131, hD132, hJ129⟩ := hJ129
                have kTt131 : t131 = true → ∀ (H : Heap) (locs : List Loc), Bd (dC, dI) [(cyI, .int), (cyB, .byte), (cyO, .object "UndoJourneys$World"), (cyA, .array .int), (cyT, .object "UndoJourneysLaw$Trip"), (cyW, .object "UndoJourneysLaw$World"), (cyZ, .boolean)] (va_A [] s.heap.size) s (wF [cU cyI cyB cyO ua ub up aw as' pa β υ ω sid τs n, [(bu, .inl (cyI, 8, .inl b))], cN rn sd, cX cyI cyA cyT wa ks ts kr ta sa ra K mT Ns ζ κ Φ Ψ121, [(nb, .inl (cyW, 9, .inr (.inr (.inr (.inr (fun j => (pb j).map pwa))))))], cXs cyI cyA cyT pwa pks pts pkr pta psa pra K mT Ns pζ pκ pΦ pΨ pc0]) H locs → W p l e room_1 s m #[Value.ref sb] below meth c H locs (c00 + 0) (s00 + 0) (lw_Z below #[Value.ref sb] s) (F0 m 771 ls []) := by
                  intro ht H locs hB
                  have hJ129 := cnd_t ht hJ129
                  refine lv_aload hx hb dL_law_771 (lv_at hl 0 rfl) ?_
                  refine lv_iconst (v := (4 : Int32)) hx hb dL_law_773 (by decide) ?_
                  replace hJ129 := ob1_s hJ129
                  obtain ⟨x136, e9, hJ129⟩ := hJ129
                  refine g_iald hx hb hK ((hB.perm (wperm (L' := [cX cyI cyA cyT wa ks ts kr ta sa ra K mT Ns ζ κ Φ Ψ121, cU cyI cyB cyO ua ub up aw as' pa β υ ω sid τs n, [(bu, .inl (cyI, 8, .inl b))], cN rn sd, [(nb, .inl (cyW, 9, .inr (.inr (.inr (.inr (fun j => (pb j).map pwa))))))], cXs cyI cyA cyT pwa pks pts pkr pta psa pra K mT Ns pζ pκ pΦ pΨ pc0]) [3, 0, 1, 2, 4, 5] (by decide +kernel) rfl rfl)).perm (cX_viewr cyI cyA cyT wa ks ts kr ta sa ra K mT Ns ζ κ Φ Ψ121 h_j54 _)) (2 + j126) 0 (cT_row cyI cyA (ta j54) (sa j54) (ra j54) (Ns j54) (Φ j54) (Ψ121 j54) _ h_j126) rfl (rd_s e9) dL_law_774 ?_
                  refine lv_bipush (v := (6 : Int32)) hx hb dL_law_775 (by decide) ?_
                  refine lv_icmp_ne (tgt := 783) hx hb dL_law_777 (by decide) (fun c137 => ?_) (fun c137 => ?_)
                  · replace hJ129 := ite_f c137 hJ129
                    refine lv_aload hx hb dL_law_783 (lv_at hl 0 rfl) ?_
                    refine lv_iconst (v := (4 : Int32)) hx hb dL_law_785 (by decide) ?_
                    refine lv_iconst (v := (0 : Int32)) hx hb dL_law_786 (by decide) ?_
                    replace hJ129 := ob1_s hJ129
                    obtain ⟨ψ138, e9, hJ129⟩ := hJ129
                    obtain ⟨hi, e9⟩ := wra_s e9
                    replace hJ129 := ob1_s hJ129
                    obtain ⟨Ψ139, e8, hJ129⟩ := hJ129
                    replace e8 := inj1 e8
                    refine g_iast hx hb hK ((hB.perm (wperm (L' := [cX cyI cyA cyT wa ks ts kr ta sa ra K mT Ns ζ κ Φ Ψ121, cU cyI cyB cyO ua ub up aw as' pa β υ ω sid τs n, [(bu, .inl (cyI, 8, .inl b))], cN rn sd, [(nb, .inl (cyW, 9, .inr (.inr (.inr (.inr (fun j => (pb j).map pwa))))))], cXs cyI cyA cyT pwa pks pts pkr pta psa pra K mT Ns pζ pκ pΦ pΨ pc0]) [3, 0, 1, 2, 4, 5] (by decide +kernel) rfl rfl)).perm (cX_viewr cyI cyA cyT wa ks ts kr ta sa ra K mT Ns ζ κ Φ Ψ121 h_j54 _)) (2 + j126) 0 (cT_row cyI cyA (ta j54) (sa j54) (ra j54) (Ns j54) (Φ j54) (Ψ121 j54) _ h_j126) rfl hi rfl dL_law_787 (w2 := cT cyI cyA (ta j54) (sa j54) (ra j54) (Ns j54) (Φ j54) ψ138 ++ (rX cyI cyA cyT wa ks ts kr ta sa ra K mT Ns ζ κ Φ Ψ121 j54 ++ (wF [cU cyI cyB cyO ua ub up aw as' pa β υ ω sid τs n, [(bu, .inl (cyI, 8, .inl b))], cN rn sd, [(nb, .inl (cyW, 9, .inr (.inr (.inr (.inr (fun j => (pb j).map pwa))))))], cXs cyI cyA cyT pwa pks pts pkr pta psa pra K mT Ns pζ pκ pΦ pΨ pc0]))) (by rw [← e9]; exact cT_set cyI cyA (ta j54) (sa j54) (ra j54) (Ns j54) (Φ j54) (Ψ121 j54) _ h_j126 _) ?_
                    clear hB locs H
                    intro H locs hB
                    replace hB := hB.perm (cX_brS cyI cyA cyT wa ks ts kr ta sa ra K mT Ns ζ κ Φ Ψ121 h_j54 ψ138 _)
                    rw [e8] at hB
                    replace hB := hB.perm wF_un1
                    replace hB := hB.perm (wperm (L' := [cU cyI cyB cyO ua ub up aw as' pa β υ ω sid τs n, [(bu, .inl (cyI, 8, .inl b))], cN rn sd, cX cyI cyA cyT wa ks ts kr ta sa ra K mT Ns ζ κ Φ Ψ139, [(nb, .inl (cyW, 9, .inr (.inr (.inr (.inr (fun j => (pb j).map pwa))))))], cXs cyI cyA cyT pwa pks pts pkr pta psa pra K mT Ns pζ pκ pΦ pΨ pc0]) [1, 2, 3, 0, 4, 5] (by decide +kernel) rfl rfl)
                    refine lv_aload hx hb dL_law_788 (lv_at hl 0 rfl) ?_
                    refine lv_bipush (v := (6 : Int32)) hx hb dL_law_790 (by decide) ?_
                    refine lv_aload hx hb dL_law_792 (lv_at hl 0 rfl) ?_
                    refine lv_bipush (v := (7 : Int32)) hx hb dL_law_794 (by decide) ?_
                    replace hJ129 := ob1_s hJ129
                    obtain ⟨x140, e9, hJ129⟩ := hJ129
                    refine g_iald hx hb hK ((hB.perm (wperm (L' := [cX cyI cyA cyT wa ks ts kr ta sa ra K mT Ns ζ κ Φ Ψ139, cU cyI cyB cyO ua ub up aw as' pa β υ ω sid τs n, [(bu, .inl (cyI, 8, .inl b))], cN rn sd, [(nb, .inl (cyW, 9, .inr (.inr (.inr (.inr (fun j => (pb j).map pwa))))))], cXs cyI cyA cyT pwa pks pts pkr pta psa pra K mT Ns pζ pκ pΦ pΨ pc0]) [3, 0, 1, 2, 4, 5] (by decide +kernel) rfl rfl)).perm (cX_viewr cyI cyA cyT wa ks ts kr ta sa ra K mT Ns ζ κ Φ Ψ139 h_j54 _)) (2 + j126) 0 (cT_row cyI cyA (ta j54) (sa j54) (ra j54) (Ns j54) (Φ j54) (Ψ139 j54) _ h_j126) rfl (rd_s e9) dL_law_796 ?_
                    replace hJ129 := ob1_s hJ129
                    obtain ⟨ψ141, e9, hJ129⟩ := hJ129
                    obtain ⟨hi, e9⟩ := wra_s e9
                    replace hJ129 := ob1_s hJ129
                    obtain ⟨Ψ142, e8, hJ129⟩ := hJ129
                    replace e8 := inj1 e8
                    refine g_iast hx hb hK ((hB.perm (wperm (L' := [cX cyI cyA cyT wa ks ts kr ta sa ra K mT Ns ζ κ Φ Ψ139, cU cyI cyB cyO ua ub up aw as' pa β υ ω sid τs n, [(bu, .inl (cyI, 8, .inl b))], cN rn sd, [(nb, .inl (cyW, 9, .inr (.inr (.inr (.inr (fun j => (pb j).map pwa))))))], cXs cyI cyA cyT pwa pks pts pkr pta psa pra K mT Ns pζ pκ pΦ pΨ pc0]) [3, 0, 1, 2, 4, 5] (by decide +kernel) rfl rfl)).perm (cX_viewr cyI cyA cyT wa ks ts kr ta sa ra K mT Ns ζ κ Φ Ψ139 h_j54 _)) (2 + j126) 0 (cT_row cyI cyA (ta j54) (sa j54) (ra j54) (Ns j54) (Φ j54) (Ψ139 j54) _ h_j126) rfl hi rfl dL_law_797 (w2 := cT cyI cyA (ta j54) (sa j54) (ra j54) (Ns j54) (Φ j54) ψ141 ++ (rX cyI cyA cyT wa ks ts kr ta sa ra K mT Ns ζ κ Φ Ψ139 j54 ++ (wF [cU cyI cyB cyO ua ub up aw as' pa β υ ω sid τs n, [(bu, .inl (cyI, 8, .inl b))], cN rn sd, [(nb, .inl (cyW, 9, .inr (.inr (.inr (.inr (fun j => (pb j).map pwa))))))], cXs cyI cyA cyT pwa pks pts pkr pta psa pra K mT Ns pζ pκ pΦ pΨ pc0]))) (by rw [← e9]; exact cT_set cyI cyA (ta j54) (sa j54) (ra j54) (Ns j54) (Φ j54) (Ψ139 j54) _ h_j126 _) ?_
                    clear hB locs H
                    intro H locs hB
                    replace hB := hB.perm (cX_brS cyI cyA cyT wa ks ts kr ta sa ra K mT Ns ζ κ Φ Ψ139 h_j54 ψ141 _)
                    rw [e8] at hB
                    replace hB := hB.perm wF_un1
                    replace hB := hB.perm (wperm (L' := [cU cyI cyB cyO ua ub up aw as' pa β υ ω sid τs n, [(bu, .inl (cyI, 8, .inl b))], cN rn sd, cX cyI cyA cyT wa ks ts kr ta sa ra K mT Ns ζ κ Φ Ψ142, [(nb, .inl (cyW, 9, .inr (.inr (.inr (.inr (fun j => (pb j).map pwa))))))], cXs cyI cyA cyT pwa pks pts pkr pta psa pra K mT Ns pζ pκ pΦ pΨ pc0]) [1, 2, 3, 0, 4, 5] (by decide +kernel) rfl rfl)
                    have e0 := inj1 hJ129
                    subst e0
                    exact kJ130 _ _ _ hB (lv_sub hl [1, 2, 3, 4, 5, 6, 7, 8, 9, 10, 11, 12, 13, 14, 15, 16, 17] rfl)
                  · replace hJ129 := ite_t c137 hJ129
                    refine lv_goto (tgt := 798) hx hb dL_law_780 (by decide) ?_
                    have e0 := inj1 hJ129
                    subst e0
                    exact kJ130 _ _ _ hB (lv_sub hl [1, 2, 3, 4, 5, 6, 7, 8, 9, 10, 11, 12, 13, 14, 15, 16, 17] rfl)
                have kFt131 : t131 = false → ∀ (H : Heap) (locs : List Loc), Bd (dC, dI) [(cyI, .int), (cyB, .byte), (cyO, .object "UndoJourneys$World"), (cyA, .array .int), (cyT, .object "UndoJourneysLaw$Trip"), (cyW, .object "UndoJourneysLaw$World"), (cyZ, .boolean)] (va_A [] s.heap.size) s (wF [cU cyI cyB cyO ua ub up aw as' pa β υ ω sid τs n, [(bu, .inl (cyI, 8, .inl b))], cN rn sd, cX cyI cyA cyT wa ks ts kr ta sa ra K mT Ns ζ κ Φ Ψ121, [(nb, .inl (cyW, 9, .inr (.inr (.inr (.inr (fun j => (pb j).map pwa))))))], cXs cyI cyA cyT pwa pks pts pkr pta psa pra K mT Ns pζ pκ pΦ pΨ pc0]) H locs → W p l e room_1 s m #[Value.ref sb] below meth c H locs (c00 + 0) (s00 + 0) (lw_Z below #[Value.ref sb] s) (F0 m 798 ls []) := by
                  intro ht H locs hB
                  have hJ129 := cnd_f ht hJ129
                  have e0 := inj1 hJ129
                  subst e0
                  exact kJ130 _ _ _ hB (lv_sub hl [1, 2, 3, 4, 5, 6, 7, 8, 9, 10, 11, 12, 13, 14, 15, 16, 17] rfl)
                refine lv_icmp_lt (tgt := 798) hx hb dL_law_760 (by decide) (fun c133 => ?_) (fun c133 => ?_)
                · replace hD132 := ite_t c133 hD132
                  have e0 := inj1 hD132
                  exact kFt131 e0.symm _ _ hB
                · replace hD132 := ite_f c133 hD132
                  refine lv_aload hx hb dL_law_763 (lv_at hl 0 rfl) ?_
                  refine lv_iconst (v := (4 : Int32)) hx hb dL_law_765 (by decide) ?_
                  replace hD132 := ob1_s hD132
                  obtain ⟨x134, e9, hD132⟩ := hD132
                  refine g_iald hx hb hK ((hB.perm (wperm (L' := [cX cyI cyA cyT wa ks ts kr ta sa ra K mT Ns ζ κ Φ Ψ121, cU cyI cyB cyO ua ub up aw as' pa β υ ω sid τs n, [(bu, .inl (cyI, 8, .inl b))], cN rn sd, [(nb, .inl (cyW, 9, .inr (.inr (.inr (.inr (fun j => (pb j).map pwa))))))], cXs cyI cyA cyT pwa pks pts pkr pta psa pra K mT Ns pζ pκ pΦ pΨ pc0]) [3, 0, 1, 2, 4, 5] (by decide +kernel) rfl rfl)).perm (cX_viewr cyI cyA cyT wa ks ts kr ta sa ra K mT Ns ζ κ Φ Ψ121 h_j54 _)) (2 + j126) 0 (cT_row cyI cyA (ta j54) (sa j54) (ra j54) (Ns j54) (Φ j54) (Ψ121 j54) _ h_j126) rfl (rd_s e9) dL_law_766 ?_
                  refine lv_iconst (v := (3 : Int32)) hx hb dL_law_767 (by decide) ?_
                  refine lv_icmp_eq (tgt := 798) hx hb dL_law_768 (by decide) (fun c135 => ?_) (fun c135 => ?_)
                  · replace hD132 := ite_t c135 hD132
                    have e0 := inj1 hD132
                    exact kFt131 e0.symm _ _ hB
                  · replace hD132 := ite_f c135 hD132
                    have e0 := inj1 hD132
                    exact kTt131 e0.symm _ _ hB
          exact key105 12 _ _ _ _ _ hL106 hB (lv_sub hl [0, 1, 2, 3, 4, 5, 6, 7, 8, 9, 10, 11, 12, 13, 14, 15, 16] rfl)
      refine lv_icmp_ne (tgt := 716) hx hb dL_law_709 (by decide) (fun c52 => ?_) (fun c52 => ?_)
      · replace hJ50 := ite_f c52 hJ50
        refine lv_iload hx hb dL_law_716 (lv_at hl 0 rfl) ?_
        have e0 := inj1 hJ50
        subst e0
        exact kJ51 _ _ _ hB (lv_sub hl [0, 1, 2, 3, 4, 5, 6, 7, 8, 9, 10, 11, 12] rfl)
      · replace hJ50 := ite_t c52 hJ50
        refine lv_iconst (v := (-1 : Int32)) hx hb dL_law_712 (by decide) ?_
        refine lv_goto (tgt := 718) hx hb dL_law_713 (by decide) ?_
        have e0 := inj1 hJ50
        subst e0
        exact kJ51 _ _ _ hB (lv_sub hl [0, 1, 2, 3, 4, 5, 6, 7, 8, 9, 10, 11, 12] rfl)
    have key45 : ∀ (n9 : Nat) (v144 : Int32)  (H : Heap) (locs : List Loc) (ls : Array Slot), loopM (fun st => mL_law_L676 fu K mT Ns l16 l15 l14 l9 l8 l2 τs n pa β υ ω sid b sd ζ κ Φ Ψ pb pζ pκ pΦ pΨ pc0 st) n9 v144 = some v43 → Bd (dC, dI) [(cyI, .int), (cyB, .byte), (cyO, .object "UndoJourneys$World"), (cyA, .array .int), (cyT, .object "UndoJourneysLaw$Trip"), (cyW, .object "UndoJourneysLaw$World"), (cyZ, .boolean)] (va_A [] s.heap.size) s (wF [cU cyI cyB cyO ua ub up aw as' pa β υ ω sid τs n, [(bu, .inl (cyI, 8, .inl b))], cN rn sd, cX cyI cyA cyT wa ks ts kr ta sa ra K mT Ns ζ κ Φ Ψ, [(nb, .inl (cyW, 9, .inr (.inr (.inr (.inr (fun j => (pb j).map pwa))))))], cXs cyI cyA cyT pwa pks pts pkr pta psa pra K mT Ns pζ pκ pΦ pΨ pc0]) H locs → lv_has ls 25 [(20, .int v144), (11, .int l16), (15, va_rf (Option.map ta l15)), (14, .int l14), (10, .ref pv), (9, .int l9), (8, .int l8), (7, .ref nb), (6, .ref wa), (5, .ref rn), (3, .ref ua), (2, .int l2), (0, .ref sb)] → W p l e room_1 s m #[Value.ref sb] below meth c H locs (c00 + 0) (s00 + 0) (lw_Z below #[Value.ref sb] s) (F0 m 676 ls []) := by
      clear hB hl ls locs H
      intro n9
      induction n9 with
      | zero => intro v144 H locs ls hL46; exact (loopM_z hL46).elim
      | succ n9 ih9 =>
        intro v144 H locs ls hL46 hB hl
        replace hL46 := loopM_s hL46
        obtain ⟨o146, hg47, hL46⟩ := hL46
        have hg47 : mL_law_L676 fu K mT Ns l16 l15 l14 l9 l8 l2 τs n pa β υ ω sid b sd ζ κ Φ Ψ pb pζ pκ pΦ pΨ pc0 v144 = some o146 := hg47
        unfold mL_law_L676 at hg47
        refine lv_iload hx hb dL_law_676 (lv_at hl 0 rfl) ?_
        refine lv_aloadR hx hb dL_law_678 (lv_at hl 2 rfl) ?_
        replace hg47 := ob1_s hg47
        obtain ⟨j148, ej148, hg47⟩ := hg47
        replace hg47 := ob1_s hg47
        obtain ⟨_, h_j148, hg47⟩ := hg47
        replace h_j148 := gLt_s h_j148
        rw [show va_rf (Option.map ta l15) = Value.ref (ta j148) from by rw [ej148]; rfl]
        refine g_get (C := RX5) (T := TX5) (N := 7) hx hb hts hinX5 hown hK ((hB.perm (wperm (L' := [cX cyI cyA cyT wa ks ts kr ta sa ra K mT Ns ζ κ Φ Ψ, cU cyI cyB cyO ua ub up aw as' pa β υ ω sid τs n, [(bu, .inl (cyI, 8, .inl b))], cN rn sd, [(nb, .inl (cyW, 9, .inr (.inr (.inr (.inr (fun j => (pb j).map pwa))))))], cXs cyI cyA cyT pwa pks pts pkr pta psa pra K mT Ns pζ pκ pΦ pΨ pc0]) [3, 0, 1, 2, 4, 5] (by decide +kernel) rfl rfl)).perm (cX_viewr cyI cyA cyT wa ks ts kr ta sa ra K mT Ns ζ κ Φ Ψ h_j148 _)) 0 rfl rfl 1 rfl hq0 rfl rfl dL_law_680 ?_
        replace hg47 := ob1_s hg47
        obtain ⟨t149, hD150, hg47⟩ := hg47
        have kTt149 : t149 = true → ∀ (H : Heap) (locs : List Loc), Bd (dC, dI) [(cyI, .int), (cyB, .byte), (cyO, .object "UndoJourneys$World"), (cyA, .array .int), (cyT, .object "UndoJourneysLaw$Trip"), (cyW, .object "UndoJourneysLaw$World"), (cyZ, .boolean)] (va_A [] s.heap.size) s (wF [cU cyI cyB cyO ua ub up aw as' pa β υ ω sid τs n, [(bu, .inl (cyI, 8, .inl b))], cN rn sd, cX cyI cyA cyT wa ks ts kr ta sa ra K mT Ns ζ κ Φ Ψ, [(nb, .inl (cyW, 9, .inr (.inr (.inr (.inr (fun j => (pb j).map pwa))))))], cXs cyI cyA cyT pwa pks pts pkr pta psa pra K mT Ns pζ pκ pΦ pΨ pc0]) H locs → W p l e room_1 s m #[Value.ref sb] below meth c H locs (c00 + 0) (s00 + 0) (lw_Z below #[Value.ref sb] s) (F0 m 696 ls []) := by
          intro ht H locs hB
          have hg47 := cnd_t ht hg47
          refine lv_iinc (v := (v144 + (1 : Int32))) (lv' := [(20, .int (v144 + (1 : Int32))), (11, .int l16), (15, va_rf (Option.map ta l15)), (14, .int l14), (10, .ref pv), (9, .int l9), (8, .int l8), (7, .ref nb), (6, .ref wa), (5, .ref rn), (3, .ref ua), (2, .int l2), (0, .ref sb)]) hx hb dL_law_696 hl (k := 0) rfl rfl (by decide) rfl ?_
          clear hl ls
          intro ls hl
          refine lv_goto (tgt := 676) hx hb dL_law_699 (by decide) ?_
          replace hL46 := el1_r (inj1 hg47) hL46
          exact ih9 _ _ _ _ hL46 hB (lv_sub hl [0, 1, 2, 3, 4, 5, 6, 7, 8, 9, 10, 11, 12] rfl)
        have kFt149 : t149 = false → ∀ (H : Heap) (locs : List Loc), Bd (dC, dI) [(cyI, .int), (cyB, .byte), (cyO, .object "UndoJourneys$World"), (cyA, .array .int), (cyT, .object "UndoJourneysLaw$Trip"), (cyW, .object "UndoJourneysLaw$World"), (cyZ, .boolean)] (va_A [] s.heap.size) s (wF [cU cyI cyB cyO ua ub up aw as' pa β υ ω sid τs n, [(bu, .inl (cyI, 8, .inl b))], cN rn sd, cX cyI cyA cyT wa ks ts kr ta sa ra K mT Ns ζ κ Φ Ψ, [(nb, .inl (cyW, 9, .inr (.inr (.inr (.inr (fun j => (pb j).map pwa))))))], cXs cyI cyA cyT pwa pks pts pkr pta psa pra K mT Ns pζ pκ pΦ pΨ pc0]) H locs → W p l e room_1 s m #[Value.ref sb] below meth c H locs (c00 + 0) (s00 + 0) (lw_Z below #[Value.ref sb] s) (F0 m 702 ls []) := by
          intro ht H locs hB
          have hg47 := cnd_f ht hg47
          replace hL46 := el1_l (inj1 hg47) hL46
          have e0 := inj1 hL46
          subst e0
          exact kE44 _ _ _ hB (lv_sub hl [0, 1, 2, 3, 4, 5, 6, 7, 8, 9, 10, 11, 12] rfl)
        refine lv_icmp_ge (tgt := 702) hx hb dL_law_683 (by decide) (fun c151 => ?_) (fun c151 => ?_)
        · replace hD150 := ite_t c151 hD150
          have e0 := inj1 hD150
          exact kFt149 e0.symm _ _ hB
        · replace hD150 := ite_f c151 hD150
          refine lv_aloadR hx hb dL_law_686 (lv_at hl 2 rfl) ?_
          refine lv_iload hx hb dL_law_688 (lv_at hl 0 rfl) ?_
          replace hD150 := ob1_s hD150
          obtain ⟨j152, ej152, hD150⟩ := hD150
          replace hD150 := ob1_s hD150
          obtain ⟨_, h_j152, hD150⟩ := hD150
          replace h_j152 := gLt_s h_j152
          rw [show va_rf (Option.map ta l15) = Value.ref (ta j152) from by rw [ej152]; rfl]
          replace hD150 := ob1_s hD150
          obtain ⟨r153, hc, hD150⟩ := hD150
          refine e_Vi (S := Unit) (As := [.int v144]) (rest := []) (wc := cT cyI cyA (ta j152) (sa j152) (ra j152) (Ns j152) (Φ j152) (Ψ j152)) (wr := (rX cyI cyA cyT wa ks ts kr ta sa ra K mT Ns ζ κ Φ Ψ j152 ++ (wF [cU cyI cyB cyO ua ub up aw as' pa β υ ω sid τs n, [(bu, .inl (cyI, 8, .inl b))], cN rn sd, [(nb, .inl (cyW, 9, .inr (.inr (.inr (.inr (fun j => (pb j).map pwa))))))], cXs cyI cyA cyT pwa pks pts pkr pta psa pra K mT Ns pζ pκ pΦ pΨ pc0]))) (w1 := fun _ => cT cyI cyA (ta j152) (sa j152) (ra j152) (Ns j152) (Φ j152) (Ψ j152)) ⟨hx, hb, hml, hown, hts⟩ (kX5_isFinished l dC dI cyI cyA (ta j152) (sa j152) (ra j152) H.size hc) (cwV 1 hts (gv_X5_isFinished_241 hgb) rfl rfl rfl (by decide +kernel) ⟨(Nat.le_of_ble_eq_true rfl), (Nat.le_of_ble_eq_true rfl)⟩) (pcut_pre (hB.perm ((wperm (L' := [cX cyI cyA cyT wa ks ts kr ta sa ra K mT Ns ζ κ Φ Ψ, cU cyI cyB cyO ua ub up aw as' pa β υ ω sid τs n, [(bu, .inl (cyI, 8, .inl b))], cN rn sd, [(nb, .inl (cyW, 9, .inr (.inr (.inr (.inr (fun j => (pb j).map pwa))))))], cXs cyI cyA cyT pwa pks pts pkr pta psa pra K mT Ns pζ pκ pΦ pΨ pc0]) [3, 0, 1, 2, 4, 5] (by decide +kernel) rfl rfl).trans (cX_viewr cyI cyA cyT wa ks ts kr ta sa ra K mT Ns ζ κ Φ Ψ h_j152 _))) (hK.sub [0, 3] rfl) (.ref (ta j152) :: [.int v144])) hB hA (g_recv (ci := 5) hK (hB.perm ((wperm (L' := [cX cyI cyA cyT wa ks ts kr ta sa ra K mT Ns ζ κ Φ Ψ, cU cyI cyB cyO ua ub up aw as' pa β υ ω sid τs n, [(bu, .inl (cyI, 8, .inl b))], cN rn sd, [(nb, .inl (cyW, 9, .inr (.inr (.inr (.inr (fun j => (pb j).map pwa))))))], cXs cyI cyA cyT pwa pks pts pkr pta psa pra K mT Ns pζ pκ pΦ pΨ pc0]) [3, 0, 1, 2, 4, 5] (by decide +kernel) rfl rfl).trans (cX_viewr cyI cyA cyT wa ks ts kr ta sa ra K mT Ns ζ κ Φ Ψ h_j152 _))) 0 rfl rfl rfl) ((wperm (L' := [cX cyI cyA cyT wa ks ts kr ta sa ra K mT Ns ζ κ Φ Ψ, cU cyI cyB cyO ua ub up aw as' pa β υ ω sid τs n, [(bu, .inl (cyI, 8, .inl b))], cN rn sd, [(nb, .inl (cyW, 9, .inr (.inr (.inr (.inr (fun j => (pb j).map pwa))))))], cXs cyI cyA cyT pwa pks pts pkr pta psa pra K mT Ns pζ pκ pΦ pΨ pc0]) [3, 0, 1, 2, 4, 5] (by decide +kernel) rfl rfl).trans (cX_viewr cyI cyA cyT wa ks ts kr ta sa ra K mT Ns ζ κ Φ Ψ h_j152 _)) rfl hl.1 rfl (Nat.le_of_ble_eq_true rfl) dL_law_690 ⟨Nat.le_trans (m := 500000) (by show _ ≤ 500000; omega) rm_c, Nat.le_trans (m := 6000000) (by show _ ≤ 6000000; omega) rm_s⟩ ?_
          clear hB locs H
          intro r9 _ H locs hr9 hB
          obtain ⟨hr9, z154⟩ := hr9
          replace hB := hB.perm (cX_viewr cyI cyA cyT wa ks ts kr ta sa ra K mT Ns ζ κ Φ Ψ h_j152 _).symm
          rw [hr9]
          replace hB := hB.perm wF_un1
          replace hB := hB.perm (wperm (L' := [cU cyI cyB cyO ua ub up aw as' pa β υ ω sid τs n, [(bu, .inl (cyI, 8, .inl b))], cN rn sd, cX cyI cyA cyT wa ks ts kr ta sa ra K mT Ns ζ κ Φ Ψ, [(nb, .inl (cyW, 9, .inr (.inr (.inr (.inr (fun j => (pb j).map pwa))))))], cXs cyI cyA cyT pwa pks pts pkr pta psa pra K mT Ns pζ pκ pΦ pΨ pc0]) [1, 2, 3, 0, 4, 5] (by decide +kernel) rfl rfl)
          refine lv_if_eq (tgt := 702) hx hb dL_law_693 (by decide) (fun c155 => ?_) (fun c155 => ?_)
          · replace hD150 := ite_t c155 hD150
            have e0 := inj1 hD150
            exact kFt149 e0.symm _ _ hB
          · replace hD150 := ite_f c155 hD150
            have e0 := inj1 hD150
            exact kTt149 e0.symm _ _ hB
    exact key45 8 _ _ _ _ hL46 hB (lv_sub hl [0, 1, 3, 4, 6, 7, 8, 9, 10, 11, 12, 13, 14] rfl)
