/-! the law from 362 to 954 -/
set_option maxHeartbeats 16000000 in
set_option maxRecDepth 100000 in
theorem kR362 {p : Program} {l : Launch} {e : Env} {s : State} {m : MethodId} {below : List Frame} {meth : Method} {c : Code} {sb L : Nat} {xs : Nat → Int32} {dC : Nat → ClassId} {dI : Nat → Nat → Nat} {cyI cyB cyO cyA cyT cyW cyZ : ClassId} {kS : Nat → Nat} (hx : p.tables.exec = Jvm.exec) (hb : c.code = cL_law) (hml : c.maxLocals = 25) (hown : s.vm.findClass RL = some m.cls) (hts : ∀ w ∈ lw_tbl, w.before #[Value.ref sb] s = true) (hX : va_X sb L xs s s.heap) (hbl : sb < s.heap.size) (hbA : ¬ va_A [] s.heap.size sb) (hl0 : l.stackTraces = false) (hK : va_K (dC, dI) vwCl [(cyI, .int), (cyB, .byte), (cyO, .object "UndoJourneys$World"), (cyA, .array .int), (cyT, .object "UndoJourneysLaw$Trip"), (cyW, .object "UndoJourneysLaw$World"), (cyZ, .boolean)] s) (hEV : EV kS (va_A [] s.heap.size) s s.heap) (hr : meth.sig.returnType = ret) (hlocks : meth.locks = false) {ua ub up bu rn nb wa ks ts : Nat} {aw : Nat → Nat → Nat} {kr ta sa : PA} {ra : Nat → PA} {K mT : Nat} {Ns : PA} (hKn : K < 7) (hmT : mT < 9) (hNs : ∀ k, k < mT → Ns k < 10) {as' : Nat → Nat → Nat} {pwa : PA} {pks : PA} {pts : PA} {pkr : Nat → PA} {pta : Nat → PA} {psa : Nat → PA} {pra : Nat → Nat → PA} {pv : Nat} {fu : Nat} {l16 : Int32} {l15 : (Option Nat)} {l14 : Int32} {l12 : Int32} {l9 : Int32} {l8 : Int32} {l2 : Int32} {τs : WS} {n : Nat} {pa : PA} {β : FS} {υ : MS} {ω : WS} {sid : PA} {b : FS} {sd : MS} {ζ : MS} {κ : MS} {Φ : WS} {Ψ : WS} {pb : (Nat → Option Nat)} {pζ : WS} {pκ : WS} {pΦ : (Nat → WS)} {pΨ : (Nat → WS)} {pc0 : Nat} {o1 : Int32} {o11 : Int32} {pa_ : PA} {υ_ : MS} {ω_ : WS} {sid_ : PA} {sd_ : MS} {ζ_ : MS} {κ_ : MS} {Φ_ : WS} {Ψ_ : WS} (hf : mL_law_R362 fu K mT Ns l16 l15 l14 l12 l9 l8 l2 τs n pa β υ ω sid b sd ζ κ Φ Ψ pb pζ pκ pΦ pΨ pc0 = some (o1, o11, pa_, υ_, ω_, sid_, sd_, ζ_, κ_, Φ_, Ψ_)) {H : Heap} {locs : List Loc} {ls : Array Slot} {c00 s00 : Nat} (hc0 : c00 + 27 ≤ 500000) (hs0 : s00 + 214 ≤ 6000000) (hB : Bd (dC, dI) [(cyI, .int), (cyB, .byte), (cyO, .object "UndoJourneys$World"), (cyA, .array .int), (cyT, .object "UndoJourneysLaw$Trip"), (cyW, .object "UndoJourneysLaw$World"), (cyZ, .boolean)] (va_A [] s.heap.size) s (wF [cU cyI cyB cyO ua ub up aw as' pa β υ ω sid τs n, [(bu, .inl (cyI, 8, .inl b))], cN rn sd, cX cyI cyA cyT wa ks ts kr ta sa ra K mT Ns ζ κ Φ Ψ, [(nb, .inl (cyW, 9, .inr (.inr (.inr (.inr (fun j => (pb j).map pwa))))))], cXs cyI cyA cyT pwa pks pts pkr pta psa pra K mT Ns pζ pκ pΦ pΨ pc0]) H locs) (hl : lv_has ls 25 [(16, .int l16), (15, va_rf (Option.map ta l15)), (14, .int l14), (12, .int l12), (10, .ref pv), (9, .int l9), (8, .int l8), (7, .ref nb), (6, .ref wa), (5, .ref rn), (3, .ref ua), (2, .int l2), (0, .ref sb)]) (nxt : ∀ (H : Heap) (locs : List Loc) (ls : Array Slot), Bd (dC, dI) [(cyI, .int), (cyB, .byte), (cyO, .object "UndoJourneys$World"), (cyA, .array .int), (cyT, .object "UndoJourneysLaw$Trip"), (cyW, .object "UndoJourneysLaw$World"), (cyZ, .boolean)] (va_A [] s.heap.size) s (wF [cU cyI cyB cyO ua ub up aw as' pa_ β υ_ ω_ sid_ τs n, [(bu, .inl (cyI, 8, .inl b))], cN rn sd_, cX cyI cyA cyT wa ks ts kr ta sa ra K mT Ns ζ_ κ_ Φ_ Ψ_, [(nb, .inl (cyW, 9, .inr (.inr (.inr (.inr (fun j => (pb j).map pwa))))))], cXs cyI cyA cyT pwa pks pts pkr pta psa pra K mT Ns pζ pκ pΦ pΨ pc0]) H locs → lv_has ls 25 [(11, .int o11), (10, .ref pv), (9, .int l9), (8, .int l8), (7, .ref nb), (6, .ref wa), (5, .ref rn), (3, .ref ua), (2, .int l2), (1, .int o1), (0, .ref sb)] → W p l e room_1 s m #[Value.ref sb] below meth c H locs (c00 + 27) (s00 + 214) (lw_Z below #[Value.ref sb] s) (F0 m 954 ls [])) : W p l e room_1 s m #[Value.ref sb] below meth c H locs c00 s00 (lw_Z below #[Value.ref sb] s) (F0 m 362 ls []) := by
  obtain ⟨hEX, hNC, hJ, hNw, hNw3, hAOw, hN6, hN5, hAOT, hAOW, hAOA, hCl⟩ := id hEV
  have hA : ∀ q : Nat, s.heap.size ≤ q → va_A [] s.heap.size q := fun q h => Or.inr h
  have hgb : ∀ w ∈ gw_tbl, w ∈ lw_tbl := gw_in
  show W p l e room_1 s m #[Value.ref sb] below meth c H locs (c00 + 0) (s00 + 0) (lw_Z below #[Value.ref sb] s) (F0 m 362 ls [])
  unfold mL_law_R362 at hf
  refine lv_aload hx hb dL_law_362 (lv_at hl 9 rfl) ?_
  refine lv_bipush (v := (9 : Int32)) hx hb dL_law_364 (by decide) ?_
  replace hf := ob2_s hf
  obtain ⟨r1, sd2, hc, hf⟩ := hf
  refine e_Vi (S := Unit) (As := [.int (9 : Int32)]) (rest := []) (wc := cN rn sd) (wr := (wF [cU cyI cyB cyO ua ub up aw as' pa β υ ω sid τs n, [(bu, .inl (cyI, 8, .inl b))], cX cyI cyA cyT wa ks ts kr ta sa ra K mT Ns ζ κ Φ Ψ, [(nb, .inl (cyW, 9, .inr (.inr (.inr (.inr (fun j => (pb j).map pwa))))))], cXs cyI cyA cyT pwa pks pts pkr pta psa pra K mT Ns pζ pκ pΦ pΨ pc0])) (w1 := fun _ => cN rn sd2) ⟨hx, hb, hml, hown, hts⟩ (kX4_below l dC dI rn H.size hc) (cwV 1 hts (gv_X4_below_107 hgb) rfl rfl rfl (by decide +kernel) ⟨(Nat.le_of_ble_eq_true rfl), (Nat.le_of_ble_eq_true rfl)⟩) (pcut_pre (hB.perm (wperm (L' := [cN rn sd, cU cyI cyB cyO ua ub up aw as' pa β υ ω sid τs n, [(bu, .inl (cyI, 8, .inl b))], cX cyI cyA cyT wa ks ts kr ta sa ra K mT Ns ζ κ Φ Ψ, [(nb, .inl (cyW, 9, .inr (.inr (.inr (.inr (fun j => (pb j).map pwa))))))], cXs cyI cyA cyT pwa pks pts pkr pta psa pra K mT Ns pζ pκ pΦ pΨ pc0]) [2, 0, 1, 3, 4, 5] (by decide +kernel) rfl rfl)) (hK.sub [] rfl) (.ref rn :: [.int (9 : Int32)])) hB hA (g_recv (ci := 4) hK (hB.perm (wperm (L' := [cN rn sd, cU cyI cyB cyO ua ub up aw as' pa β υ ω sid τs n, [(bu, .inl (cyI, 8, .inl b))], cX cyI cyA cyT wa ks ts kr ta sa ra K mT Ns ζ κ Φ Ψ, [(nb, .inl (cyW, 9, .inr (.inr (.inr (.inr (fun j => (pb j).map pwa))))))], cXs cyI cyA cyT pwa pks pts pkr pta psa pra K mT Ns pζ pκ pΦ pΨ pc0]) [2, 0, 1, 3, 4, 5] (by decide +kernel) rfl rfl)) 0 rfl rfl rfl) (wperm (L' := [cN rn sd, cU cyI cyB cyO ua ub up aw as' pa β υ ω sid τs n, [(bu, .inl (cyI, 8, .inl b))], cX cyI cyA cyT wa ks ts kr ta sa ra K mT Ns ζ κ Φ Ψ, [(nb, .inl (cyW, 9, .inr (.inr (.inr (.inr (fun j => (pb j).map pwa))))))], cXs cyI cyA cyT pwa pks pts pkr pta psa pra K mT Ns pζ pκ pΦ pΨ pc0]) [2, 0, 1, 3, 4, 5] (by decide +kernel) rfl rfl) rfl hl.1 rfl (Nat.le_of_ble_eq_true rfl) dL_law_366 ⟨Nat.le_trans (m := 500000) (by show _ ≤ 500000; omega) rm_c, Nat.le_trans (m := 6000000) (by show _ ≤ 6000000; omega) rm_s⟩ ?_
  clear hB locs H
  intro r9 _ H locs hr9 hB
  rw [hr9]
  replace hB := hB.perm wF_un1
  replace hB := hB.perm (wperm (L' := [cU cyI cyB cyO ua ub up aw as' pa β υ ω sid τs n, [(bu, .inl (cyI, 8, .inl b))], cN rn sd2, cX cyI cyA cyT wa ks ts kr ta sa ra K mT Ns ζ κ Φ Ψ, [(nb, .inl (cyW, 9, .inr (.inr (.inr (.inr (fun j => (pb j).map pwa))))))], cXs cyI cyA cyT pwa pks pts pkr pta psa pra K mT Ns pζ pκ pΦ pΨ pc0]) [1, 2, 0, 3, 4, 5] (by decide +kernel) rfl rfl)
  by_cases c3 : r1 = 0
  · replace hf := ite_t c3 hf
    refine lv_tableIn (tgt := 400) (off := 31) hx hb dL_law_369 (by rw [c3]; decide) (by rw [c3]; decide) (by rw [c3]; rfl) (by decide) ?_
    replace hf := ob8_s hf
    obtain ⟨o4, o5, pa6, υ7, ω8, sid11, sd12, κ13, hc, hf⟩ := hf
    refine kR400 hx hb hml hown hts hX hbl hbA hl0 hK hEV hr hlocks hKn hmT hNs hc (by show _ ≤ 500000; omega) (by show _ ≤ 6000000; omega) hB (lv_sub hl [4, 5, 6, 7, 8, 9, 10, 11, 12] rfl) (fun  H locs ls hB hl => ?_)
    obtain ⟨e0, e1, e2, e3, e4, e5, e6, e7, e8, e9, e10⟩ := inj11 hf
    subst e0
    subst e1
    subst e2
    subst e3
    subst e4
    subst e5
    subst e6
    subst e7
    subst e8
    subst e9
    subst e10
    refine W.widen (k := (c00 + 27)) (n := (s00 + 214)) (by omega) (by omega) ?_
    exact nxt _ _ _ hB (lv_sub hl [0, 1, 2, 3, 4, 5, 6, 7, 8, 9, 10] rfl)
  · replace hf := ite_f c3 hf
    by_cases c14 : r1 = 1
    · replace hf := ite_t c14 hf
      refine lv_tableIn (tgt := 557) (off := 188) hx hb dL_law_369 (by rw [c14]; decide) (by rw [c14]; decide) (by rw [c14]; rfl) (by decide) ?_
      replace hf := ob9_s hf
      obtain ⟨o15, o16, pa17, υ18, ω19, sid20, κ21, Φ22, Ψ23, hc, hf⟩ := hf
      refine kR557 hx hb hml hown hts hX hbl hbA hl0 hK hEV hr hlocks hKn hmT hNs hc (by show _ ≤ 500000; omega) (by show _ ≤ 6000000; omega) hB (lv_sub hl [0, 1, 2, 3, 4, 5, 6, 7, 8, 9, 10, 11, 12] rfl) (fun  H locs ls hB hl => ?_)
      obtain ⟨e0, e1, e2, e3, e4, e5, e6, e7, e8, e9, e10⟩ := inj11 hf
      subst e0
      subst e1
      subst e2
      subst e3
      subst e4
      subst e5
      subst e6
      subst e7
      subst e8
      subst e9
      subst e10
      refine W.widen (k := (c00 + 27)) (n := (s00 + 214)) (by omega) (by omega) ?_
      exact nxt _ _ _ hB (lv_sub hl [0, 1, 2, 3, 4, 5, 6, 7, 8, 9, 10] rfl)
    · replace hf := ite_f c14 hf
      by_cases c24 : r1 = 2
      · replace hf := ite_t c24 hf
        refine lv_tableIn (tgt := 611) (off := 242) hx hb dL_law_369 (by rw [c24]; decide) (by rw [c24]; decide) (by rw [c24]; rfl) (by decide) ?_
        replace hf := ob8_s hf
        obtain ⟨o25, o26, pa27, υ28, ω29, sid30, Φ31, Ψ32, hc, hf⟩ := hf
        refine kR611 hx hb hml hown hts hX hbl hbA hl0 hK hEV hr hlocks hKn hmT hNs hc (by show _ ≤ 500000; omega) (by show _ ≤ 6000000; omega) hB (lv_sub hl [0, 1, 2, 3, 4, 5, 6, 7, 8, 9, 10, 11, 12] rfl) (fun  H locs ls hB hl => ?_)
        obtain ⟨e0, e1, e2, e3, e4, e5, e6, e7, e8, e9, e10⟩ := inj11 hf
        subst e0
        subst e1
        subst e2
        subst e3
        subst e4
        subst e5
        subst e6
        subst e7
        subst e8
        subst e9
        subst e10
        refine W.widen (k := (c00 + 27)) (n := (s00 + 214)) (by omega) (by omega) ?_
        exact nxt _ _ _ hB (lv_sub hl [0, 1, 2, 3, 4, 5, 6, 7, 8, 9, 10] rfl)
      · replace hf := ite_f c24 hf
        by_cases c33 : r1 = 3
        · replace hf := ite_t c33 hf
          refine lv_tableIn (tgt := 664) (off := 295) hx hb dL_law_369 (by rw [c33]; decide) (by rw [c33]; decide) (by rw [c33]; rfl) (by decide) ?_
          replace hf := ob8_s hf
          obtain ⟨o34, o35, pa36, υ37, ω38, sid39, Φ40, Ψ41, hc, hf⟩ := hf
          refine kR664 hx hb hml hown hts hX hbl hbA hl0 hK hEV hr hlocks hKn hmT hNs hc (by show _ ≤ 500000; omega) (by show _ ≤ 6000000; omega) hB (lv_sub hl [0, 1, 2, 3, 4, 5, 6, 7, 8, 9, 10, 11, 12] rfl) (fun  H locs ls hB hl => ?_)
          obtain ⟨e0, e1, e2, e3, e4, e5, e6, e7, e8, e9, e10⟩ := inj11 hf
          subst e0
          subst e1
          subst e2
          subst e3
          subst e4
          subst e5
          subst e6
          subst e7
          subst e8
          subst e9
          subst e10
          refine W.widen (k := (c00 + 27)) (n := (s00 + 214)) (by omega) (by omega) ?_
          exact nxt _ _ _ hB (lv_sub hl [0, 1, 2, 3, 4, 5, 6, 7, 8, 9, 10] rfl)
        · replace hf := ite_f c33 hf
          refine lv_tableOut (tgt := 843) hx hb dL_law_369 (sw_out (n := 3) (by decide) (fun k hk q => by
              rcases (show k = 0 ∨ k = 1 ∨ k = 2 ∨ k = 3 by omega) with rfl | rfl | rfl | rfl
              · exact c3 (q.trans rfl)
              · exact c14 (q.trans rfl)
              · exact c24 (q.trans rfl)
              · exact c33 (q.trans rfl)))
            (by decide) ?_
          replace hf := ob11_s hf
          obtain ⟨o42, o43, pa44, υ45, ω46, sid47, sd48, ζ49, κ50, Φ51, Ψ52, hc, hf⟩ := hf
          refine kR843 hx hb hml hown hts hX hbl hbA hl0 hK hEV hr hlocks hKn hmT hNs hc (by show _ ≤ 500000; omega) (by show _ ≤ 6000000; omega) hB (lv_sub hl [4, 5, 6, 7, 8, 9, 10, 11, 12] rfl) (fun  H locs ls hB hl => ?_)
          obtain ⟨e0, e1, e2, e3, e4, e5, e6, e7, e8, e9, e10⟩ := inj11 hf
          subst e0
          subst e1
          subst e2
          subst e3
          subst e4
          subst e5
          subst e6
          subst e7
          subst e8
          subst e9
          subst e10
          exact nxt _ _ _ hB (lv_sub hl [0, 1, 2, 3, 4, 5, 6, 7, 8, 9, 10] rfl)
