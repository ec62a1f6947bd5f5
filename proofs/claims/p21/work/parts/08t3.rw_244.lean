/-! randomWorld from 244 to 514 -/
set_option maxHeartbeats 16000000 in
set_option maxRecDepth 100000 in
theorem kR244 {p : Program} {l : Launch} {e : Env} {s : State} {m : MethodId} {args : Array Value} {below : List Frame} {meth : Method} {c : Code} {Q : State → Prop} {A : Nat → Prop} {dC : Nat → ClassId} {dI : Nat → Nat → Nat} {cyI cyB cyO cyA cyT cyW cyZ : ClassId} {kS : Nat → Nat} {ua ub up bu rn wq tn rwq : Nat} {aw : Nat → Nat → Nat} {as' : Nat → Nat → Nat} {ks : Nat} {ts : Nat} {kr : PA} {ta : PA} {sa : PA} {ra : Nat → PA} {tq : Nat} {sq : Nat} {rq : PA} {sqn : Nat} {tqo : Nat} (hx : p.tables.exec = Jvm.exec) (hb : c.code = cL_randomWorld) (hml : c.maxLocals = 11) (hown : s.vm.findClass RL = some m.cls) (hts : ∀ w ∈ wqL_randomWorld, w.before args s = true) (hl0 : l.stackTraces = false) (hK : va_K (dC, dI) vwCl [(cyI, .int), (cyB, .byte), (cyO, .object "UndoJourneys$World"), (cyA, .array .int), (cyT, .object "UndoJourneysLaw$Trip"), (cyW, .object "UndoJourneysLaw$World"), (cyZ, .boolean)] s) (hA : ∀ q : Nat, s.heap.size ≤ q → A q) (hEV : EV kS A s s.heap) {fu : Nat} {l4 : Int32} {τs : WS} {n : Nat} {pa : PA} {β : FS} {υ : MS} {ω : WS} {sid : PA} {b : FS} {sd : MS} {ζ : MS} {κ : MS} {K : Nat} {mT : Nat} {ct : Nat} {Ns : PA} {Φ : WS} {Ψ : WS} {φ : MS} {ψ : MS} {nS : Nat} {rF : FS} {β_ : FS} {υ_ : MS} {b_ : FS} {sd_ : MS} {ψ_ : MS} {nS_ : Nat} (hf : mL_rw_R244 fu l4 τs n pa β υ ω sid b sd ζ κ K mT ct Ns Φ Ψ φ ψ nS rF = some (β_, υ_, b_, sd_, ψ_, nS_)) {H : Heap} {locs : List Loc} {ls : Array Slot} {c00 s00 : Nat} (hc0 : c00 + 50 ≤ 2500) (hs0 : s00 + 475 ≤ 12000) (hB : Bd (dC, dI) [(cyI, .int), (cyB, .byte), (cyO, .object "UndoJourneys$World"), (cyA, .array .int), (cyT, .object "UndoJourneysLaw$Trip"), (cyW, .object "UndoJourneysLaw$World"), (cyZ, .boolean)] A s (wF [cU cyI cyB cyO ua ub up aw as' pa β υ ω sid τs n, [(bu, .inl (cyI, 8, .inl b))], cN rn sd, [(wq, .inr (6, [.int (ζ 0 0), .int (ζ 1 0), .int (ζ 2 0), .int (ζ 3 0), .ref ks, .ref ts]))], [(ks, .inl (cyA, K, .inr (.inr (.inr (.inr (fun k => some (kr k)))))))], [(ts, .inl (cyT, mT, .inr (.inr (.inr (.inr (prf (ct + 1) (va_up ta ct tn)))))))], cRw cyI kr K 2 κ, cXt cyI cyA ta sa ra Ns Φ Ψ (List.range ct), cT cyI cyA tn sq rq nS φ ψ]) H locs) (hl : lv_has ls 11 [(5, .ref tn), (4, .int l4), (3, .ref wq), (2, .ref rn), (1, .ref bu), (0, .ref ua)]) (nxt : ∀ (sq_ : Nat) (rq_ : PA) (H : Heap) (locs : List Loc) (ls : Array Slot), Bd (dC, dI) [(cyI, .int), (cyB, .byte), (cyO, .object "UndoJourneys$World"), (cyA, .array .int), (cyT, .object "UndoJourneysLaw$Trip"), (cyW, .object "UndoJourneysLaw$World"), (cyZ, .boolean)] A s (wF [cU cyI cyB cyO ua ub up aw as' pa β_ υ_ ω sid τs n, [(bu, .inl (cyI, 8, .inl b_))], cN rn sd_, [(wq, .inr (6, [.int (ζ 0 0), .int (ζ 1 0), .int (ζ 2 0), .int (ζ 3 0), .ref ks, .ref ts]))], [(ks, .inl (cyA, K, .inr (.inr (.inr (.inr (fun k => some (kr k)))))))], [(ts, .inl (cyT, mT, .inr (.inr (.inr (.inr (prf (ct + 1) (va_up ta ct tn)))))))], cRw cyI kr K 2 κ, cXt cyI cyA ta sa ra Ns Φ Ψ (List.range ct), cT cyI cyA tn sq_ rq_ nS_ φ ψ_]) H locs → lv_has ls 11 [(4, .int l4), (3, .ref wq), (2, .ref rn), (1, .ref bu), (0, .ref ua)] → W p l e (headSpec wqL_randomWorld rmL_randomWorld).room s m args below meth c H locs (c00 + 50) (s00 + 475) (Q) (F0 m 514 ls [])) : W p l e (headSpec wqL_randomWorld rmL_randomWorld).room s m args below meth c H locs c00 s00 (Q) (F0 m 244 ls []) := by
  obtain ⟨hEX, hNC, hJ, hNw, hNw3, hAOw, hN6, hN5, hAOT, hAOW, hAOA, hCl⟩ := id hEV
  have hgb : ∀ w ∈ gw_tbl, w ∈ wqL_randomWorld := fun w h => List.mem_cons_of_mem _ h
  have hq0 : (Cond.fieldLink RL 141 "UndoJourneysLaw$Trip" "stages" "I").before _ s = true := hts _ (hgb _ (gwt (tb2 70 rfl) (by decide +kernel)))
  have hinX5 : ∀ w ∈ wsX50, w ∈ wqL_randomWorld := fun w h => hgb _ (gwt (t_wsX50 w h) (List.all_eq_true.mp (by decide +kernel : wsX50.all goodWord = true) w h))
  show W p l e (headSpec wqL_randomWorld rmL_randomWorld).room s m args below meth c H locs (c00 + 0) (s00 + 0) (Q) (F0 m 244 ls [])
  unfold mL_rw_R244 at hf
  refine lv_iconst (v := (0 : Int32)) hx hb dL_randomWorld_244 (by decide) ?_
  refine lv_istore (lv' := [(6, .int (0 : Int32)), (5, .ref tn), (4, .int l4), (3, .ref wq), (2, .ref rn), (1, .ref bu), (0, .ref ua)]) hx hb dL_randomWorld_245 hl (by decide) rfl ?_
  clear hl ls
  intro ls hl
  replace hf := ob6_s hf
  obtain ⟨β112, υ113, b114, sd115, ψ116, nS117, hL122, hf⟩ := hf
  have kE120 : ∀ (sq118 : Nat) (rq119 : PA) (H : Heap) (locs : List Loc) (ls : Array Slot), Bd (dC, dI) [(cyI, .int), (cyB, .byte), (cyO, .object "UndoJourneys$World"), (cyA, .array .int), (cyT, .object "UndoJourneysLaw$Trip"), (cyW, .object "UndoJourneysLaw$World"), (cyZ, .boolean)] A s (wF [cU cyI cyB cyO ua ub up aw as' pa β112 υ113 ω sid τs n, [(bu, .inl (cyI, 8, .inl b114))], cN rn sd115, [(wq, .inr (6, [.int (ζ 0 0), .int (ζ 1 0), .int (ζ 2 0), .int (ζ 3 0), .ref ks, .ref ts]))], [(ks, .inl (cyA, K, .inr (.inr (.inr (.inr (fun k => some (kr k)))))))], [(ts, .inl (cyT, mT, .inr (.inr (.inr (.inr (prf (ct + 1) (va_up ta ct tn)))))))], cRw cyI kr K 2 κ, cXt cyI cyA ta sa ra Ns Φ Ψ (List.range ct), cT cyI cyA tn sq118 rq119 nS117 φ ψ116]) H locs → lv_has ls 11 [(4, .int l4), (3, .ref wq), (2, .ref rn), (1, .ref bu), (0, .ref ua)] → W p l e (headSpec wqL_randomWorld rmL_randomWorld).room s m args below meth c H locs (c00 + 50) (s00 + 475) (Q) (F0 m 514 ls []) := by
    clear hB hl ls locs H
    intro sq118 rq119 H locs ls hB hl
    obtain ⟨e0, e1, e2, e3, e4, e5⟩ := inj6 hf
    subst e0
    subst e1
    subst e2
    subst e3
    subst e4
    subst e5
    exact nxt _ _ _ _ _ hB (lv_sub hl [0, 1, 2, 3, 4] rfl)
  have key121 : ∀ (n9 : Nat) (v125 : Int32) (β126 : FS) (υ127 : MS) (b128 : FS) (sd129 : MS) (ψ130 : MS) (nS131 : Nat) (sq132 : Nat) (rq133 : PA) (H : Heap) (locs : List Loc) (ls : Array Slot), n9 ≤ 5 → loopM (fun st => mL_randomWorld_L247 fu l4 τs n pa ω sid ζ κ K mT ct Ns Φ Ψ φ rF st.1 st.2.1 st.2.2.1 st.2.2.2.1 st.2.2.2.2.1 st.2.2.2.2.2.1 st.2.2.2.2.2.2) n9 (v125, β126, υ127, b128, sd129, ψ130, nS131) = some (β112, υ113, b114, sd115, ψ116, nS117) → Bd (dC, dI) [(cyI, .int), (cyB, .byte), (cyO, .object "UndoJourneys$World"), (cyA, .array .int), (cyT, .object "UndoJourneysLaw$Trip"), (cyW, .object "UndoJourneysLaw$World"), (cyZ, .boolean)] A s (wF [cU cyI cyB cyO ua ub up aw as' pa β126 υ127 ω sid τs n, [(bu, .inl (cyI, 8, .inl b128))], cN rn sd129, [(wq, .inr (6, [.int (ζ 0 0), .int (ζ 1 0), .int (ζ 2 0), .int (ζ 3 0), .ref ks, .ref ts]))], [(ks, .inl (cyA, K, .inr (.inr (.inr (.inr (fun k => some (kr k)))))))], [(ts, .inl (cyT, mT, .inr (.inr (.inr (.inr (prf (ct + 1) (va_up ta ct tn)))))))], cRw cyI kr K 2 κ, cXt cyI cyA ta sa ra Ns Φ Ψ (List.range ct), cT cyI cyA tn sq132 rq133 nS131 φ ψ130]) H locs → lv_has ls 11 [(6, .int v125), (5, .ref tn), (4, .int l4), (3, .ref wq), (2, .ref rn), (1, .ref bu), (0, .ref ua)] → W p l e (headSpec wqL_randomWorld rmL_randomWorld).room s m args below meth c H locs ((c00 + 0) + (5 - n9) * 10) ((s00 + 0) + (5 - n9) * 95) (Q) (F0 m 247 ls []) := by
    clear hB hl ls locs H
    intro n9
    induction n9 with
    | zero => intro v125 β126 υ127 b128 sd129 ψ130 nS131 sq132 rq133 H locs ls _ hL122; exact (loopM_z hL122).elim
    | succ n9 ih9 =>
      intro v125 β126 υ127 b128 sd129 ψ130 nS131 sq132 rq133 H locs ls hn136 hL122 hB hl
      obtain ⟨cv134, hcv134⟩ : ∃ cv : Nat, cv + 0 = (c00 + 0) + (5 - (n9 + 1)) * 10 := ⟨_, Nat.add_zero _⟩
      obtain ⟨scv134, hscv134⟩ : ∃ cv : Nat, cv + 0 = (s00 + 0) + (5 - (n9 + 1)) * 95 := ⟨_, Nat.add_zero _⟩
      rw [← hcv134, ← hscv134]
      replace hL122 := loopM_s hL122
      obtain ⟨o135, hg123, hL122⟩ := hL122
      have hg123 : mL_randomWorld_L247 fu l4 τs n pa ω sid ζ κ K mT ct Ns Φ Ψ φ rF v125 β126 υ127 b128 sd129 ψ130 nS131 = some o135 := hg123
      unfold mL_randomWorld_L247 at hg123
      refine lv_iload hx hb dL_randomWorld_247 (lv_at hl 0 rfl) ?_
      refine lv_aload hx hb dL_randomWorld_249 (lv_at hl 1 rfl) ?_
      refine g_get (C := RX5) (T := TX5) (N := 7) hx hb hts hinX5 hown hK (hB.perm (wperm (L' := [cT cyI cyA tn sq132 rq133 nS131 φ ψ130, cU cyI cyB cyO ua ub up aw as' pa β126 υ127 ω sid τs n, [(bu, .inl (cyI, 8, .inl b128))], cN rn sd129, [(wq, .inr (6, [.int (ζ 0 0), .int (ζ 1 0), .int (ζ 2 0), .int (ζ 3 0), .ref ks, .ref ts]))], [(ks, .inl (cyA, K, .inr (.inr (.inr (.inr (fun k => some (kr k)))))))], [(ts, .inl (cyT, mT, .inr (.inr (.inr (.inr (prf (ct + 1) (va_up ta ct tn)))))))], cRw cyI kr K 2 κ, cXt cyI cyA ta sa ra Ns Φ Ψ (List.range ct)]) [8, 0, 1, 2, 3, 4, 5, 6, 7] (by decide +kernel) rfl rfl)) 0 rfl rfl 1 rfl hq0 rfl rfl dL_randomWorld_251 ?_
      refine lv_icmp_ge (tgt := 514) hx hb dL_randomWorld_254 (by decide) (fun c137 => ?_) (fun c137 => ?_)
      · replace hg123 := ite_t c137 hg123
        replace hL122 := el1_l (inj1 hg123) hL122
        refine W.widen (k := (c00 + 50)) (n := (s00 + 475)) (by omega) (by omega) ?_
        obtain ⟨e0, e1, e2, e3, e4, e5⟩ := inj6 hL122
        subst e0
        subst e1
        subst e2
        subst e3
        subst e4
        subst e5
        exact kE120 _ _ _ _ _ hB (lv_sub hl [2, 3, 4, 5, 6] rfl)
      · replace hg123 := ite_f c137 hg123
        refine lv_iload hx hb dL_randomWorld_257 (lv_at hl 0 rfl) ?_
        replace hg123 := ob3_s hg123
        obtain ⟨β138, υ139, b140, hJ141, hg123⟩ := hg123
        have kJ142 : ∀ (H : Heap) (locs : List Loc) (ls : Array Slot), Bd (dC, dI) [(cyI, .int), (cyB, .byte), (cyO, .object "UndoJourneys$World"), (cyA, .array .int), (cyT, .object "UndoJourneysLaw$Trip"), (cyW, .object "UndoJourneysLaw$World"), (cyZ, .boolean)] A s (wF [cU cyI cyB cyO ua ub up aw as' pa β138 υ139 ω sid τs n, [(bu, .inl (cyI, 8, .inl b140))], cN rn sd129, [(wq, .inr (6, [.int (ζ 0 0), .int (ζ 1 0), .int (ζ 2 0), .int (ζ 3 0), .ref ks, .ref ts]))], [(ks, .inl (cyA, K, .inr (.inr (.inr (.inr (fun k => some (kr k)))))))], [(ts, .inl (cyT, mT, .inr (.inr (.inr (.inr (prf (ct + 1) (va_up ta ct tn)))))))], cRw cyI kr K 2 κ, cXt cyI cyA ta sa ra Ns Φ Ψ (List.range ct), cT cyI cyA tn sq132 rq133 nS131 φ ψ130]) H locs → lv_has ls 11 [(6, .int v125), (5, .ref tn), (4, .int l4), (3, .ref wq), (2, .ref rn), (1, .ref bu), (0, .ref ua)] → W p l e (headSpec wqL_randomWorld rmL_randomWorld).room s m args below meth c H locs (cv134 + 0) (scv134 + 0) (Q) (F0 m 269 ls []) := by
          clear hB hl ls locs H
          intro H locs ls hB hl
          refine lv_iconst (v := (1 : Int32)) hx hb dL_randomWorld_269 (by decide) ?_
          refine lv_aload_n hx hb dL_randomWorld_270 rfl (lv_at hl 4 rfl) ?_
          refine lv_aload_n hx hb dL_randomWorld_271 rfl (lv_at hl 4 rfl) ?_
          refine lv_iconst (v := (2 : Int32)) hx hb dL_randomWorld_272 (by decide) ?_
          replace hg123 := ob2_s hg123
          obtain ⟨r147, sd148, hc, hg123⟩ := hg123
          refine e_Vi (S := Unit) (As := [.int (2 : Int32)]) (rest := [.ref rn, .int (1 : Int32)]) (wc := cN rn sd129) (wr := (wF [cU cyI cyB cyO ua ub up aw as' pa β138 υ139 ω sid τs n, [(bu, .inl (cyI, 8, .inl b140))], [(wq, .inr (6, [.int (ζ 0 0), .int (ζ 1 0), .int (ζ 2 0), .int (ζ 3 0), .ref ks, .ref ts]))], [(ks, .inl (cyA, K, .inr (.inr (.inr (.inr (fun k => some (kr k)))))))], [(ts, .inl (cyT, mT, .inr (.inr (.inr (.inr (prf (ct + 1) (va_up ta ct tn)))))))], cRw cyI kr K 2 κ, cXt cyI cyA ta sa ra Ns Φ Ψ (List.range ct), cT cyI cyA tn sq132 rq133 nS131 φ ψ130])) (w1 := fun _ => cN rn sd148) ⟨hx, hb, hml, hown, hts⟩ (kX4_below l dC dI rn H.size hc) (cwV 1 hts (gv_X4_below_107 hgb) rfl rfl rfl (by decide +kernel) ⟨(Nat.le_of_ble_eq_true rfl), (Nat.le_of_ble_eq_true rfl)⟩) (pcut_pre (hB.perm (wperm (L' := [cN rn sd129, cU cyI cyB cyO ua ub up aw as' pa β138 υ139 ω sid τs n, [(bu, .inl (cyI, 8, .inl b140))], [(wq, .inr (6, [.int (ζ 0 0), .int (ζ 1 0), .int (ζ 2 0), .int (ζ 3 0), .ref ks, .ref ts]))], [(ks, .inl (cyA, K, .inr (.inr (.inr (.inr (fun k => some (kr k)))))))], [(ts, .inl (cyT, mT, .inr (.inr (.inr (.inr (prf (ct + 1) (va_up ta ct tn)))))))], cRw cyI kr K 2 κ, cXt cyI cyA ta sa ra Ns Φ Ψ (List.range ct), cT cyI cyA tn sq132 rq133 nS131 φ ψ130]) [2, 0, 1, 3, 4, 5, 6, 7, 8] (by decide +kernel) rfl rfl)) (hK.sub [] rfl) (.ref rn :: [.int (2 : Int32)])) hB hA (g_recv (ci := 4) hK (hB.perm (wperm (L' := [cN rn sd129, cU cyI cyB cyO ua ub up aw as' pa β138 υ139 ω sid τs n, [(bu, .inl (cyI, 8, .inl b140))], [(wq, .inr (6, [.int (ζ 0 0), .int (ζ 1 0), .int (ζ 2 0), .int (ζ 3 0), .ref ks, .ref ts]))], [(ks, .inl (cyA, K, .inr (.inr (.inr (.inr (fun k => some (kr k)))))))], [(ts, .inl (cyT, mT, .inr (.inr (.inr (.inr (prf (ct + 1) (va_up ta ct tn)))))))], cRw cyI kr K 2 κ, cXt cyI cyA ta sa ra Ns Φ Ψ (List.range ct), cT cyI cyA tn sq132 rq133 nS131 φ ψ130]) [2, 0, 1, 3, 4, 5, 6, 7, 8] (by decide +kernel) rfl rfl)) 0 rfl rfl rfl) (wperm (L' := [cN rn sd129, cU cyI cyB cyO ua ub up aw as' pa β138 υ139 ω sid τs n, [(bu, .inl (cyI, 8, .inl b140))], [(wq, .inr (6, [.int (ζ 0 0), .int (ζ 1 0), .int (ζ 2 0), .int (ζ 3 0), .ref ks, .ref ts]))], [(ks, .inl (cyA, K, .inr (.inr (.inr (.inr (fun k => some (kr k)))))))], [(ts, .inl (cyT, mT, .inr (.inr (.inr (.inr (prf (ct + 1) (va_up ta ct tn)))))))], cRw cyI kr K 2 κ, cXt cyI cyA ta sa ra Ns Φ Ψ (List.range ct), cT cyI cyA tn sq132 rq133 nS131 φ ψ130]) [2, 0, 1, 3, 4, 5, 6, 7, 8] (by decide +kernel) rfl rfl) rfl hl.1 rfl (Nat.le_of_ble_eq_true rfl) dL_randomWorld_273 ⟨by show _ ≤ 2500; omega, by show _ ≤ 12000; omega⟩ ?_
          clear hB locs H
          intro r9 _ H locs hr9 hB
          rw [hr9]
          replace hB := hB.perm wF_un1
          replace hB := hB.perm (wperm (L' := [cU cyI cyB cyO ua ub up aw as' pa β138 υ139 ω sid τs n, [(bu, .inl (cyI, 8, .inl b140))], cN rn sd148, [(wq, .inr (6, [.int (ζ 0 0), .int (ζ 1 0), .int (ζ 2 0), .int (ζ 3 0), .ref ks, .ref ts]))], [(ks, .inl (cyA, K, .inr (.inr (.inr (.inr (fun k => some (kr k)))))))], [(ts, .inl (cyT, mT, .inr (.inr (.inr (.inr (prf (ct + 1) (va_up ta ct tn)))))))], cRw cyI kr K 2 κ, cXt cyI cyA ta sa ra Ns Φ Ψ (List.range ct), cT cyI cyA tn sq132 rq133 nS131 φ ψ130]) [1, 2, 0, 3, 4, 5, 6, 7, 8] (by decide +kernel) rfl rfl)
          replace hg123 := ob1_s hg123
          obtain ⟨v149, hJ150, hg123⟩ := hg123
          have kJ151 : ∀ (H : Heap) (locs : List Loc) (ls : Array Slot), Bd (dC, dI) [(cyI, .int), (cyB, .byte), (cyO, .object "UndoJourneys$World"), (cyA, .array .int), (cyT, .object "UndoJourneysLaw$Trip"), (cyW, .object "UndoJourneysLaw$World"), (cyZ, .boolean)] A s (wF [cU cyI cyB cyO ua ub up aw as' pa β138 υ139 ω sid τs n, [(bu, .inl (cyI, 8, .inl b140))], cN rn sd148, [(wq, .inr (6, [.int (ζ 0 0), .int (ζ 1 0), .int (ζ 2 0), .int (ζ 3 0), .ref ks, .ref ts]))], [(ks, .inl (cyA, K, .inr (.inr (.inr (.inr (fun k => some (kr k)))))))], [(ts, .inl (cyT, mT, .inr (.inr (.inr (.inr (prf (ct + 1) (va_up ta ct tn)))))))], cRw cyI kr K 2 κ, cXt cyI cyA ta sa ra Ns Φ Ψ (List.range ct), cT cyI cyA tn sq132 rq133 nS131 φ ψ130]) H locs → lv_has ls 11 [(6, .int v125), (5, .ref tn), (4, .int l4), (3, .ref wq), (2, .ref rn), (1, .ref bu), (0, .ref ua)] → W p l e (headSpec wqL_randomWorld rmL_randomWorld).room s m args below meth c H locs (cv134 + 0) (scv134 + 0) (Q) (F0 m 284 ls [.int v149, .ref rn, .int (1 : Int32)]) := by
            clear hB hl ls locs H
            intro H locs ls hB hl
            replace hg123 := ob2_s hg123
            obtain ⟨r153, sd154, hc, hg123⟩ := hg123
            refine e_Vi (S := Unit) (As := [.int v149]) (rest := [.int (1 : Int32)]) (wc := cN rn sd148) (wr := (wF [cU cyI cyB cyO ua ub up aw as' pa β138 υ139 ω sid τs n, [(bu, .inl (cyI, 8, .inl b140))], [(wq, .inr (6, [.int (ζ 0 0), .int (ζ 1 0), .int (ζ 2 0), .int (ζ 3 0), .ref ks, .ref ts]))], [(ks, .inl (cyA, K, .inr (.inr (.inr (.inr (fun k => some (kr k)))))))], [(ts, .inl (cyT, mT, .inr (.inr (.inr (.inr (prf (ct + 1) (va_up ta ct tn)))))))], cRw cyI kr K 2 κ, cXt cyI cyA ta sa ra Ns Φ Ψ (List.range ct), cT cyI cyA tn sq132 rq133 nS131 φ ψ130])) (w1 := fun _ => cN rn sd154) ⟨hx, hb, hml, hown, hts⟩ (kX4_below l dC dI rn H.size hc) (cwV 1 hts (gv_X4_below_107 hgb) rfl rfl rfl (by decide +kernel) ⟨(Nat.le_of_ble_eq_true rfl), (Nat.le_of_ble_eq_true rfl)⟩) (pcut_pre (hB.perm (wperm (L' := [cN rn sd148, cU cyI cyB cyO ua ub up aw as' pa β138 υ139 ω sid τs n, [(bu, .inl (cyI, 8, .inl b140))], [(wq, .inr (6, [.int (ζ 0 0), .int (ζ 1 0), .int (ζ 2 0), .int (ζ 3 0), .ref ks, .ref ts]))], [(ks, .inl (cyA, K, .inr (.inr (.inr (.inr (fun k => some (kr k)))))))], [(ts, .inl (cyT, mT, .inr (.inr (.inr (.inr (prf (ct + 1) (va_up ta ct tn)))))))], cRw cyI kr K 2 κ, cXt cyI cyA ta sa ra Ns Φ Ψ (List.range ct), cT cyI cyA tn sq132 rq133 nS131 φ ψ130]) [2, 0, 1, 3, 4, 5, 6, 7, 8] (by decide +kernel) rfl rfl)) (hK.sub [] rfl) (.ref rn :: [.int v149])) hB hA (g_recv (ci := 4) hK (hB.perm (wperm (L' := [cN rn sd148, cU cyI cyB cyO ua ub up aw as' pa β138 υ139 ω sid τs n, [(bu, .inl (cyI, 8, .inl b140))], [(wq, .inr (6, [.int (ζ 0 0), .int (ζ 1 0), .int (ζ 2 0), .int (ζ 3 0), .ref ks, .ref ts]))], [(ks, .inl (cyA, K, .inr (.inr (.inr (.inr (fun k => some (kr k)))))))], [(ts, .inl (cyT, mT, .inr (.inr (.inr (.inr (prf (ct + 1) (va_up ta ct tn)))))))], cRw cyI kr K 2 κ, cXt cyI cyA ta sa ra Ns Φ Ψ (List.range ct), cT cyI cyA tn sq132 rq133 nS131 φ ψ130]) [2, 0, 1, 3, 4, 5, 6, 7, 8] (by decide +kernel) rfl rfl)) 0 rfl rfl rfl) (wperm (L' := [cN rn sd148, cU cyI cyB cyO ua ub up aw as' pa β138 υ139 ω sid τs n, [(bu, .inl (cyI, 8, .inl b140))], [(wq, .inr (6, [.int (ζ 0 0), .int (ζ 1 0), .int (ζ 2 0), .int (ζ 3 0), .ref ks, .ref ts]))], [(ks, .inl (cyA, K, .inr (.inr (.inr (.inr (fun k => some (kr k)))))))], [(ts, .inl (cyT, mT, .inr (.inr (.inr (.inr (prf (ct + 1) (va_up ta ct tn)))))))], cRw cyI kr K 2 κ, cXt cyI cyA ta sa ra Ns Φ Ψ (List.range ct), cT cyI cyA tn sq132 rq133 nS131 φ ψ130]) [2, 0, 1, 3, 4, 5, 6, 7, 8] (by decide +kernel) rfl rfl) rfl hl.1 rfl (Nat.le_of_ble_eq_true rfl) dL_randomWorld_284 ⟨by show _ ≤ 2500; omega, by show _ ≤ 12000; omega⟩ ?_
            clear hB locs H
            intro r9 _ H locs hr9 hB
            rw [hr9]
            replace hB := hB.perm wF_un1
            replace hB := hB.perm (wperm (L' := [cU cyI cyB cyO ua ub up aw as' pa β138 υ139 ω sid τs n, [(bu, .inl (cyI, 8, .inl b140))], cN rn sd154, [(wq, .inr (6, [.int (ζ 0 0), .int (ζ 1 0), .int (ζ 2 0), .int (ζ 3 0), .ref ks, .ref ts]))], [(ks, .inl (cyA, K, .inr (.inr (.inr (.inr (fun k => some (kr k)))))))], [(ts, .inl (cyT, mT, .inr (.inr (.inr (.inr (prf (ct + 1) (va_up ta ct tn)))))))], cRw cyI kr K 2 κ, cXt cyI cyA ta sa ra Ns Φ Ψ (List.range ct), cT cyI cyA tn sq132 rq133 nS131 φ ψ130]) [1, 2, 0, 3, 4, 5, 6, 7, 8] (by decide +kernel) rfl rfl)
            refine lv_iadd hx hb dL_randomWorld_287 ?_
            refine lv_istore (lv' := [(7, .int ((1 : Int32) + r153)), (6, .int v125), (5, .ref tn), (4, .int l4), (3, .ref wq), (2, .ref rn), (1, .ref bu), (0, .ref ua)]) hx hb dL_randomWorld_288 hl (by decide) rfl ?_
            clear hl ls
            intro ls hl
            refine lv_iconst (v := (0 : Int32)) hx hb dL_randomWorld_290 (by decide) ?_
            refine lv_istore (lv' := [(8, .int (0 : Int32)), (7, .int ((1 : Int32) + r153)), (6, .int v125), (5, .ref tn), (4, .int l4), (3, .ref wq), (2, .ref rn), (1, .ref bu), (0, .ref ua)]) hx hb dL_randomWorld_291 hl (by decide) rfl ?_
            clear hl ls
            intro ls hl
            replace hg123 := ob6_s hg123
            obtain ⟨β180, υ181, b182, sd183, ψ184, nS185, hL190, hg123⟩ := hg123
            have kE188 : ∀ (sq186 : Nat) (rq187 : PA) (H : Heap) (locs : List Loc) (ls : Array Slot), Bd (dC, dI) [(cyI, .int), (cyB, .byte), (cyO, .object "UndoJourneys$World"), (cyA, .array .int), (cyT, .object "UndoJourneysLaw$Trip"), (cyW, .object "UndoJourneysLaw$World"), (cyZ, .boolean)] A s (wF [cU cyI cyB cyO ua ub up aw as' pa β180 υ181 ω sid τs n, [(bu, .inl (cyI, 8, .inl b182))], cN rn sd183, [(wq, .inr (6, [.int (ζ 0 0), .int (ζ 1 0), .int (ζ 2 0), .int (ζ 3 0), .ref ks, .ref ts]))], [(ks, .inl (cyA, K, .inr (.inr (.inr (.inr (fun k => some (kr k)))))))], [(ts, .inl (cyT, mT, .inr (.inr (.inr (.inr (prf (ct + 1) (va_up ta ct tn)))))))], cRw cyI kr K 2 κ, cXt cyI cyA ta sa ra Ns Φ Ψ (List.range ct), cT cyI cyA tn sq186 rq187 nS185 φ ψ184]) H locs → lv_has ls 11 [(6, .int v125), (5, .ref tn), (4, .int l4), (3, .ref wq), (2, .ref rn), (1, .ref bu), (0, .ref ua)] → W p l e (headSpec wqL_randomWorld rmL_randomWorld).room s m args below meth c H locs (cv134 + 10) (scv134 + 95) (Q) (F0 m 508 ls []) := by
              clear hB hl ls locs H
              intro sq186 rq187 H locs ls hB hl
              refine lv_iinc (v := (v125 + (1 : Int32))) (lv' := [(6, .int (v125 + (1 : Int32))), (5, .ref tn), (4, .int l4), (3, .ref wq), (2, .ref rn), (1, .ref bu), (0, .ref ua)]) hx hb dL_randomWorld_508 hl (k := 0) rfl rfl (by decide) rfl ?_
              clear hl ls
              intro ls hl
              refine lv_goto (tgt := 247) hx hb dL_randomWorld_511 (by decide) ?_
              replace hL122 := el1_r (inj1 hg123) hL122
              refine W.widen (k := (c00 + 0) + (5 - n9) * 10) (n := (s00 + 0) + (5 - n9) * 95) (by omega) (by omega) ?_
              exact ih9 _ _ _ _ _ _ _ _ _ _ _ _ (by omega) hL122 hB (lv_sub hl [0, 1, 2, 3, 4, 5, 6] rfl)
            have key189 : ∀ (n9 : Nat) (v193 : Int32) (β194 : FS) (υ195 : MS) (b196 : FS) (sd197 : MS) (ψ198 : MS) (nS199 : Nat) (sq200 : Nat) (rq201 : PA) (H : Heap) (locs : List Loc) (ls : Array Slot), n9 ≤ 5 → loopM (fun st => mL_randomWorld_L293 fu ((1 : Int32) + r153) v125 l4 τs n pa ω sid ζ κ K mT ct Ns Φ Ψ φ rF st.1 st.2.1 st.2.2.1 st.2.2.2.1 st.2.2.2.2.1 st.2.2.2.2.2.1 st.2.2.2.2.2.2) n9 (v193, β194, υ195, b196, sd197, ψ198, nS199) = some (β180, υ181, b182, sd183, ψ184, nS185) → Bd (dC, dI) [(cyI, .int), (cyB, .byte), (cyO, .object "UndoJourneys$World"), (cyA, .array .int), (cyT, .object "UndoJourneysLaw$Trip"), (cyW, .object "UndoJourneysLaw$World"), (cyZ, .boolean)] A s (wF [cU cyI cyB cyO ua ub up aw as' pa β194 υ195 ω sid τs n, [(bu, .inl (cyI, 8, .inl b196))], cN rn sd197, [(wq, .inr (6, [.int (ζ 0 0), .int (ζ 1 0), .int (ζ 2 0), .int (ζ 3 0), .ref ks, .ref ts]))], [(ks, .inl (cyA, K, .inr (.inr (.inr (.inr (fun k => some (kr k)))))))], [(ts, .inl (cyT, mT, .inr (.inr (.inr (.inr (prf (ct + 1) (va_up ta ct tn)))))))], cRw cyI kr K 2 κ, cXt cyI cyA ta sa ra Ns Φ Ψ (List.range ct), cT cyI cyA tn sq200 rq201 nS199 φ ψ198]) H locs → lv_has ls 11 [(8, .int v193), (7, .int ((1 : Int32) + r153)), (6, .int v125), (5, .ref tn), (4, .int l4), (3, .ref wq), (2, .ref rn), (1, .ref bu), (0, .ref ua)] → W p l e (headSpec wqL_randomWorld rmL_randomWorld).room s m args below meth c H locs ((cv134 + 0) + (5 - n9) * 2) ((scv134 + 0) + (5 - n9) * 19) (Q) (F0 m 293 ls []) := by
              clear hB hl ls locs H
              intro n9
              induction n9 with
              | zero => intro v193 β194 υ195 b196 sd197 ψ198 nS199 sq200 rq201 H locs ls _ hL190; exact (loopM_z hL190).elim
              | succ n9 ih9 =>
                intro v193 β194 υ195 b196 sd197 ψ198 nS199 sq200 rq201 H locs ls hn204 hL190 hB hl
                obtain ⟨cv202, hcv202⟩ : ∃ cv : Nat, cv + 0 = (cv134 + 0) + (5 - (n9 + 1)) * 2 := ⟨_, Nat.add_zero _⟩
                obtain ⟨scv202, hscv202⟩ : ∃ cv : Nat, cv + 0 = (scv134 + 0) + (5 - (n9 + 1)) * 19 := ⟨_, Nat.add_zero _⟩
                rw [← hcv202, ← hscv202]
                replace hL190 := loopM_s hL190
                obtain ⟨o203, hg191, hL190⟩ := hL190
                have hg191 : mL_randomWorld_L293 fu ((1 : Int32) + r153) v125 l4 τs n pa ω sid ζ κ K mT ct Ns Φ Ψ φ rF v193 β194 υ195 b196 sd197 ψ198 nS199 = some o203 := hg191
                unfold mL_randomWorld_L293 at hg191
                refine lv_iload hx hb dL_randomWorld_293 (lv_at hl 0 rfl) ?_
                refine lv_iload hx hb dL_randomWorld_295 (lv_at hl 1 rfl) ?_
                refine lv_icmp_ge (tgt := 508) hx hb dL_randomWorld_297 (by decide) (fun c205 => ?_) (fun c205 => ?_)
                · replace hg191 := ite_t c205 hg191
                  replace hL190 := el1_l (inj1 hg191) hL190
                  refine W.widen (k := (cv134 + 10)) (n := (scv134 + 95)) (by omega) (by omega) ?_
                  obtain ⟨e0, e1, e2, e3, e4, e5⟩ := inj6 hL190
                  subst e0
                  subst e1
                  subst e2
                  subst e3
                  subst e4
                  subst e5
                  exact kE188 _ _ _ _ _ hB (lv_sub hl [2, 3, 4, 5, 6, 7, 8] rfl)
                · replace hg191 := ite_f c205 hg191
                  replace hg191 := ob7_s hg191
                  obtain ⟨o206, β207, υ208, b209, sd210, ψ211, nS212, hc, hg191⟩ := hg191
                  refine kR300 (as' := as') (ks := ks) (ts := ts) (kr := kr) (ta := ta) (sa := sa) (ra := ra) (tq := tn) (sq := sq200) (rq := rq201) (sqn := sqn) (tqo := tqo) (tn := tn) (rwq := 0) (c00 := (cv202 + 0)) (s00 := (scv202 + 0)) hx hb hml hown hts hl0 hK hA hEV hc (by show _ ≤ 2500; omega) (by show _ ≤ 12000; omega) hB (lv_sub hl [0, 1, 2, 3, 4, 5, 6, 7, 8] rfl) (fun sq213 rq214 H locs ls hB hl => ?_)
                  refine W.widen (k := (cv202 + 2)) (n := (scv202 + 19)) (by omega) (by omega) ?_
                  refine lv_goto (tgt := 293) hx hb dL_randomWorld_505 (by decide) ?_
                  replace hL190 := el1_r (inj1 hg191) hL190
                  refine W.widen (k := (cv134 + 0) + (5 - n9) * 2) (n := (scv134 + 0) + (5 - n9) * 19) (by omega) (by omega) ?_
                  exact ih9 _ _ _ _ _ _ _ _ _ _ _ _ (by omega) hL190 hB (lv_sub hl [0, 1, 2, 3, 4, 5, 6, 7, 8] rfl)
            refine W.widen (k := (cv134 + 0) + (5 - 5) * 2) (n := (scv134 + 0) + (5 - 5) * 19) (by omega) (by omega) ?_
            exact key189 5 _ _ _ _ _ _ _ _ _ _ _ _ (Nat.le_refl _) hL190 hB (lv_sub hl [0, 1, 2, 3, 4, 5, 6, 7, 8] rfl)
          refine lv_if_ne (tgt := 283) hx hb dL_randomWorld_276 (by decide) (fun c152 => ?_) (fun c152 => ?_)
          · replace hJ150 := ite_f c152 hJ150
            refine lv_iconst (v := (3 : Int32)) hx hb dL_randomWorld_283 (by decide) ?_
            have e0 := inj1 hJ150
            subst e0
            exact kJ151 _ _ _ hB (lv_sub hl [0, 1, 2, 3, 4, 5, 6] rfl)
          · replace hJ150 := ite_t c152 hJ150
            refine lv_iconst (v := (1 : Int32)) hx hb dL_randomWorld_279 (by decide) ?_
            refine lv_goto (tgt := 284) hx hb dL_randomWorld_280 (by decide) ?_
            have e0 := inj1 hJ150
            subst e0
            exact kJ151 _ _ _ hB (lv_sub hl [0, 1, 2, 3, 4, 5, 6] rfl)
        refine lv_if_le (tgt := 269) hx hb dL_randomWorld_259 (by decide) (fun c143 => ?_) (fun c143 => ?_)
        · replace hJ141 := ite_t c143 hJ141
          obtain ⟨e0, e1, e2⟩ := inj3 hJ141
          subst e0
          subst e1
          subst e2
          exact kJ142 _ _ _ hB (lv_sub hl [0, 1, 2, 3, 4, 5, 6] rfl)
        · replace hJ141 := ite_f c143 hJ141
          refine lv_aload_n hx hb dL_randomWorld_262 rfl (lv_at hl 6 rfl) ?_
          refine lv_aload_n hx hb dL_randomWorld_263 rfl (lv_at hl 5 rfl) ?_
          refine g_ldcS hx hb hown hJ 14 rfl dL_randomWorld_264 ?_
          replace hJ141 := ob3_s hJ141
          obtain ⟨β144, υ145, b146, hc, hJ141⟩ := hJ141
          refine e_Sv (S := Unit) (As := [.ref ua, .ref bu, .ref (kS 14)]) (rest := []) (wc := (wF [cU cyI cyB cyO ua ub up aw as' pa β126 υ127 ω sid τs n, [(bu, .inl (cyI, 8, .inl b128))]])) (wr := (wF [cN rn sd129, [(wq, .inr (6, [.int (ζ 0 0), .int (ζ 1 0), .int (ζ 2 0), .int (ζ 3 0), .ref ks, .ref ts]))], [(ks, .inl (cyA, K, .inr (.inr (.inr (.inr (fun k => some (kr k)))))))], [(ts, .inl (cyT, mT, .inr (.inr (.inr (.inr (prf (ct + 1) (va_up ta ct tn)))))))], cRw cyI kr K 2 κ, cXt cyI cyA ta sa ra Ns Φ Ψ (List.range ct), cT cyI cyA tn sq132 rq133 nS131 φ ψ130])) (w1 := fun _ => (wF [cU cyI cyB cyO ua ub up aw as' pa β144 υ145 ω sid τs n, [(bu, .inl (cyI, 8, .inl b146))]])) ⟨hx, hb, hml, hown, hts⟩ (kL_write l hl0 dC dI cyI cyB cyO cyA cyT cyW cyZ ua ub up aw as' kS bu H.size (by decide) hc) (va_cwS 3 hts (gv_L_write_95 hgb) rfl rfl rfl (by decide +kernel) ⟨(Nat.le_of_ble_eq_true rfl), (Nat.le_of_ble_eq_true rfl)⟩) (epre_left hEV (hB.perm ((wperm (L' := [cU cyI cyB cyO ua ub up aw as' pa β126 υ127 ω sid τs n, [(bu, .inl (cyI, 8, .inl b128))], cN rn sd129, [(wq, .inr (6, [.int (ζ 0 0), .int (ζ 1 0), .int (ζ 2 0), .int (ζ 3 0), .ref ks, .ref ts]))], [(ks, .inl (cyA, K, .inr (.inr (.inr (.inr (fun k => some (kr k)))))))], [(ts, .inl (cyT, mT, .inr (.inr (.inr (.inr (prf (ct + 1) (va_up ta ct tn)))))))], cRw cyI kr K 2 κ, cXt cyI cyA ta sa ra Ns Φ Ψ (List.range ct), cT cyI cyA tn sq132 rq133 nS131 φ ψ130]) [0, 1, 2, 3, 4, 5, 6, 7, 8] (by decide +kernel) rfl rfl).trans (wF_cut (a := [cU cyI cyB cyO ua ub up aw as' pa β126 υ127 ω sid τs n, [(bu, .inl (cyI, 8, .inl b128))]]) (b := [cN rn sd129, [(wq, .inr (6, [.int (ζ 0 0), .int (ζ 1 0), .int (ζ 2 0), .int (ζ 3 0), .ref ks, .ref ts]))], [(ks, .inl (cyA, K, .inr (.inr (.inr (.inr (fun k => some (kr k)))))))], [(ts, .inl (cyT, mT, .inr (.inr (.inr (.inr (prf (ct + 1) (va_up ta ct tn)))))))], cRw cyI kr K 2 κ, cXt cyI cyA ta sa ra Ns Φ Ψ (List.range ct), cT cyI cyA tn sq132 rq133 nS131 φ ψ130])))) hA hK [.ref ua, .ref bu, .ref (kS 14)]) hB hA ((wperm (L' := [cU cyI cyB cyO ua ub up aw as' pa β126 υ127 ω sid τs n, [(bu, .inl (cyI, 8, .inl b128))], cN rn sd129, [(wq, .inr (6, [.int (ζ 0 0), .int (ζ 1 0), .int (ζ 2 0), .int (ζ 3 0), .ref ks, .ref ts]))], [(ks, .inl (cyA, K, .inr (.inr (.inr (.inr (fun k => some (kr k)))))))], [(ts, .inl (cyT, mT, .inr (.inr (.inr (.inr (prf (ct + 1) (va_up ta ct tn)))))))], cRw cyI kr K 2 κ, cXt cyI cyA ta sa ra Ns Φ Ψ (List.range ct), cT cyI cyA tn sq132 rq133 nS131 φ ψ130]) [0, 1, 2, 3, 4, 5, 6, 7, 8] (by decide +kernel) rfl rfl).trans (wF_cut (a := [cU cyI cyB cyO ua ub up aw as' pa β126 υ127 ω sid τs n, [(bu, .inl (cyI, 8, .inl b128))]]) (b := [cN rn sd129, [(wq, .inr (6, [.int (ζ 0 0), .int (ζ 1 0), .int (ζ 2 0), .int (ζ 3 0), .ref ks, .ref ts]))], [(ks, .inl (cyA, K, .inr (.inr (.inr (.inr (fun k => some (kr k)))))))], [(ts, .inl (cyT, mT, .inr (.inr (.inr (.inr (prf (ct + 1) (va_up ta ct tn)))))))], cRw cyI kr K 2 κ, cXt cyI cyA ta sa ra Ns Φ Ψ (List.range ct), cT cyI cyA tn sq132 rq133 nS131 φ ψ130]))) rfl hl.1 rfl (Nat.le_of_ble_eq_true rfl) dL_randomWorld_266 ⟨by show _ ≤ 2500; omega, by show _ ≤ 12000; omega⟩ ?_
          clear hB locs H
          intro _ H locs hr9 hB
          replace hB := hB.perm wF_uncut
          replace hB := hB.perm (wperm (L' := [cU cyI cyB cyO ua ub up aw as' pa β144 υ145 ω sid τs n, [(bu, .inl (cyI, 8, .inl b146))], cN rn sd129, [(wq, .inr (6, [.int (ζ 0 0), .int (ζ 1 0), .int (ζ 2 0), .int (ζ 3 0), .ref ks, .ref ts]))], [(ks, .inl (cyA, K, .inr (.inr (.inr (.inr (fun k => some (kr k)))))))], [(ts, .inl (cyT, mT, .inr (.inr (.inr (.inr (prf (ct + 1) (va_up ta ct tn)))))))], cRw cyI kr K 2 κ, cXt cyI cyA ta sa ra Ns Φ Ψ (List.range ct), cT cyI cyA tn sq132 rq133 nS131 φ ψ130]) [0, 1, 2, 3, 4, 5, 6, 7, 8] (by decide +kernel) rfl rfl)
          obtain ⟨e0, e1, e2⟩ := inj3 hJ141
          subst e0
          subst e1
          subst e2
          exact kJ142 _ _ _ hB (lv_sub hl [0, 1, 2, 3, 4, 5, 6] rfl)
  refine W.widen (k := (c00 + 0) + (5 - 5) * 10) (n := (s00 + 0) + (5 - 5) * 95) (by omega) (by omega) ?_
  exact key121 5 _ _ _ _ _ _ _ _ _ _ _ _ (Nat.le_refl _) hL122 hB (lv_sub hl [0, 1, 2, 3, 4, 5, 6] rfl)
