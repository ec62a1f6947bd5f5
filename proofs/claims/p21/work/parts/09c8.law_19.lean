/-! the law from 19 to 1136 -/
set_option maxHeartbeats 16000000 in
set_option maxRecDepth 100000 in
theorem kR19 {p : Program} {l : Launch} {e : Env} {s : State} {m : MethodId} {below : List Frame} {meth : Method} {c : Code} {sb L : Nat} {xs : Nat → Int32} {dC : Nat → ClassId} {dI : Nat → Nat → Nat} {cyI cyB cyO cyA cyT cyW cyZ : ClassId} {kS : Nat → Nat} (hx : p.tables.exec = Jvm.exec) (hb : c.code = cL_law) (hml : c.maxLocals = 25) (hown : s.vm.findClass RL = some m.cls) (hts : ∀ w ∈ lw_tbl, w.before #[Value.ref sb] s = true) (hX : va_X sb L xs s s.heap) (hbl : sb < s.heap.size) (hbA : ¬ va_A [] s.heap.size sb) (hl0 : l.stackTraces = false) (hK : va_K (dC, dI) vwCl [(cyI, .int), (cyB, .byte), (cyO, .object "UndoJourneys$World"), (cyA, .array .int), (cyT, .object "UndoJourneysLaw$Trip"), (cyW, .object "UndoJourneysLaw$World"), (cyZ, .boolean)] s) (hEV : EV kS (va_A [] s.heap.size) s s.heap) (hr : meth.sig.returnType = ret) (hlocks : meth.locks = false)    {fu : Nat} {l2 : Int32} {o1 : Int32} (hf : mL_law_R19 fu xs L l2 = some o1) {H : Heap} {locs : List Loc} {ls : Array Slot} {c00 s00 : Nat} (hc0 : c00 + 102141 ≤ 500000) (hs0 : s00 + 622274 ≤ 6000000) (hB : Bd (dC, dI) [(cyI, .int), (cyB, .byte), (cyO, .object "UndoJourneys$World"), (cyA, .array .int), (cyT, .object "UndoJourneysLaw$Trip"), (cyW, .object "UndoJourneysLaw$World"), (cyZ, .boolean)] (va_A [] s.heap.size) s (wF []) H locs) (hl : lv_has ls 25 [(2, .int l2), (0, .ref sb)]) (nxt : ∀ (H : Heap) (locs : List Loc) (ls : Array Slot), Bd (dC, dI) [(cyI, .int), (cyB, .byte), (cyO, .object "UndoJourneys$World"), (cyA, .array .int), (cyT, .object "UndoJourneysLaw$Trip"), (cyW, .object "UndoJourneysLaw$World"), (cyZ, .boolean)] (va_A [] s.heap.size) s (wF []) H locs → lv_has ls 25 [(2, .int l2), (1, .int o1), (0, .ref sb)] → W p l e room_1 s m #[Value.ref sb] below meth c H locs (c00 + 102141) (s00 + 622274) (lw_Z below #[Value.ref sb] s) (F0 m 1136 ls [])) : W p l e room_1 s m #[Value.ref sb] below meth c H locs c00 s00 (lw_Z below #[Value.ref sb] s) (F0 m 19 ls []) := by
  obtain ⟨hEX, hNC, hJ, hNw, hNw3, hAOw, hN6, hN5, hAOT, hAOW, hAOA, hCl⟩ := id hEV
  have hA : ∀ q : Nat, s.heap.size ≤ q → va_A [] s.heap.size q := fun q h => Or.inr h
  have hgb : ∀ w ∈ gw_tbl, w ∈ lw_tbl := gw_in
  have hq0 : (Cond.classLink RL 14 RX3).before _ s = true := hts _ (tb1 22 rfl)
  have hq1 : (Cond.instantiable RX3 7).before _ s = true := hts _ (tb1 23 rfl)
  have hq2 : (Cond.initialized RX3).before _ s = true := hts _ (tb1 1 rfl)
  have hq3 : (Cond.instanceMethod yX3_init).before _ s = true := hts _ (tb1 25 rfl)
  have hq4 : (Cond.methodLink RL 200 yX3_init).before _ s = true := hts _ (tb1 24 rfl)
  have hq5 : (Cond.arrayClass .int).before _ s = true := hts _ (tb1 115 rfl)
  have hq6 : (Cond.classLink RL 108 RX4).before _ s = true := hts _ (tb1 210 rfl)
  have hq7 : (Cond.instantiable RX4 1).before _ s = true := hts _ (tb1 211 rfl)
  have hq8 : (Cond.initialized RX4).before _ s = true := hts _ (tb1 4 rfl)
  have hq9 : (Cond.instanceMethod yX4_init).before _ s = true := hts _ (tb1 213 rfl)
  have hq10 : (Cond.methodLink RL 201 yX4_init).before _ s = true := hts _ (tb1 212 rfl)
  have hq11 : (Cond.classLink RL 102 RX6).before _ s = true := hts _ (tb2 9 rfl)
  have hq12 : (Cond.instantiable RX6 6).before _ s = true := hts _ (tb2 10 rfl)
  have hq13 : (Cond.initialized RX6).before _ s = true := hts _ (tb1 5 rfl)
  have hq14 : (Cond.instanceMethod yX6_init).before _ s = true := hts _ (tb2 12 rfl)
  have hq15 : (Cond.constant RL 42 (-2000000098)).before _ s = true := hts _ (tb3 175 rfl)
  have hq16 : (Cond.constant RL 52 (-2000000097)).before _ s = true := hts _ (tb3 225 rfl)
  have hinX3 : ∀ w ∈ wsX30, w ∈ lw_tbl := t_wsX30
  have hinX4 : ∀ w ∈ wsX40, w ∈ lw_tbl := t_wsX40
  have hinX6 : ∀ w ∈ wsX60, w ∈ lw_tbl := t_wsX60
  show W p l e room_1 s m #[Value.ref sb] below meth c H locs (c00 + 0) (s00 + 0) (lw_Z below #[Value.ref sb] s) (F0 m 19 ls [])
  have hrc_agrees : rmL_agrees.cells = 2000 := rfl
  have hrs_agrees : rmL_agrees.slots = 12000 := rfl
  have hrc_pass : rmL_pass.cells = 1 := rfl
  have hrs_pass : rmL_pass.slots = 6 := rfl
  have hrc_randomWorld : rmL_randomWorld.cells = 2500 := rfl
  have hrs_randomWorld : rmL_randomWorld.slots = 12000 := rfl
  have hrc_restock : rmL_restock.cells = 2 := rfl
  have hrs_restock : rmL_restock.slots = 12 := rfl
  have hrc_settle : rmL_settle.cells = 2 := rfl
  have hrs_settle : rmL_settle.slots = 12 := rfl
  unfold mL_law_R19 at hf
  refine g_new (C := RX3) (T := TX3) (N := 7) (ci := 3) hx hb hts hinX3 tyX3 tyX3_ok hown hq0 hq1 hq2 hK hB hA rfl [.null, .int 0, .int 0, .null, .null, .null, .int 0] (by decide +kernel) (Nat.le_trans (m := 500000) (by show _ ≤ 500000; omega) rm_c) (Nat.le_trans (m := 6000000) (by show _ ≤ 6000000; omega) rm_s) dL_law_19 ?_
  clear hB locs H
  intro ua H locs hB
  replace hB := hB.perm wF_push
  refine lv_dup hx hb dL_law_22 rfl ?_
  refine e_Iv (S := Nat × Nat × (Nat → Nat → Nat) × (Nat → Nat → Nat)) (As := []) (rest := [.ref ua]) (wc := [(ua, .inr (3, [.null, .int 0, .int 0, .null, .null, .null, .int 0]))]) (wr := (wF [])) (w1 := fun u1 => cU cyI cyB cyO ua u1.1 u1.2.1 u1.2.2.1 u1.2.2.2 (fun k => k + 2) (fun _ => 0) υ0 (fun _ => σ0) (fun _ => 0) (fun _ => τ0) 1) ⟨hx, hb, hml, hown, hts⟩ (kX3_init l dC dI cyI cyB cyO ua H.size) (cwI 0 hts (gv_wsX3_init hgb) rfl rfl rfl hq2 hq4 hq3 rfl (by decide +kernel) ⟨(Nat.le_of_ble_eq_true rfl), (Nat.le_of_ble_eq_true rfl)⟩) (apre_left (fun U hW => ⟨va_AO.warm hW hAOw, va_Nw.warmM hW hNw3⟩) (fun _ _ _ _ h => h) (hB.perm (wperm (L' := [[(ua, .inr (3, [.null, .int 0, .int 0, .null, .null, .null, .int 0]))]]) [0] (by decide +kernel) rfl rfl)) hA (hK.sub [0, 1, 2] rfl) [.ref ua]) hB hA (wperm (L' := [[(ua, .inr (3, [.null, .int 0, .int 0, .null, .null, .null, .int 0]))]]) [0] (by decide +kernel) rfl rfl) rfl hl.1 rfl (Nat.le_of_ble_eq_true rfl) dL_law_23 ⟨Nat.le_trans (m := 500000) (by show _ ≤ 500000; omega) rm_c, Nat.le_trans (m := 6000000) (by show _ ≤ 6000000; omega) rm_s⟩ ?_
  clear hB locs H
  intro u1 H locs _ hB
  replace hB := hB.perm wF_un1
  replace hB := hB.perm (wperm (L' := [cU cyI cyB cyO ua u1.1 u1.2.1 u1.2.2.1 u1.2.2.2 (fun k => k + 2) (fun _ => 0) υ0 (fun _ => σ0) (fun _ => 0) (fun _ => τ0) 1]) [0] (by decide +kernel) rfl rfl)
  obtain ⟨ub, up, aw, asq⟩ := u1
  replace hB : Bd (dC, dI) [(cyI, .int), (cyB, .byte), (cyO, .object "UndoJourneys$World"), (cyA, .array .int), (cyT, .object "UndoJourneysLaw$Trip"), (cyW, .object "UndoJourneysLaw$World"), (cyZ, .boolean)] (va_A [] s.heap.size) s (wF [cU cyI cyB cyO ua ub up aw asq (fun k => k + 2) (fun _ => 0) υ0 (fun _ => σ0) (fun _ => 0) (fun _ => τ0) 1]) H locs := hB
  refine lv_astore_n (lv' := [(3, .ref ua), (2, .int l2), (0, .ref sb)]) hx hb dL_law_26 rfl hl (by decide) rfl ?_
  clear hl ls
  intro ls hl
  refine lv_bipush (v := (8 : Int32)) hx hb dL_law_27 (by decide) ?_
  refine g_newa (atype := .int) (cA := cyI) 0 rfl hx hb hq5 rfl hK hB hA 8 (fun _ => rfl) (fun _ h => h) (by decide) (by decide) (Nat.le_of_ble_eq_true rfl) (Nat.le_trans (m := 500000) (by show _ ≤ 500000; omega) rm_c) (Nat.le_trans (m := 6000000) (by show _ ≤ 6000000; omega) rm_s) dL_law_29 ?_
  clear hB locs H
  intro bu H locs hB
  replace hB := hB.perm wF_push
  refine lv_astore (lv' := [(4, .ref bu), (3, .ref ua), (2, .int l2), (0, .ref sb)]) hx hb dL_law_31 hl (by decide) rfl ?_
  clear hl ls
  intro ls hl
  refine g_new (C := RX4) (T := TX4) (N := 1) (ci := 4) hx hb hts hinX4 tyX4 tyX4_ok hown hq6 hq7 hq8 hK hB hA rfl [.int 0] (by decide +kernel) (Nat.le_trans (m := 500000) (by show _ ≤ 500000; omega) rm_c) (Nat.le_trans (m := 6000000) (by show _ ≤ 6000000; omega) rm_s) dL_law_33 ?_
  clear hB locs H
  intro rn H locs hB
  replace hB := hB.perm wF_push
  refine lv_dup hx hb dL_law_36 rfl ?_
  refine lv_aload_n hx hb dL_law_37 rfl (lv_at hl 3 rfl) ?_
  refine lv_iload_n hx hb dL_law_38 rfl (lv_at hl 2 rfl) ?_
  replace hf := ob1_s hf
  obtain ⟨x2, e9, hf⟩ := hf
  have e9 := rd_s e9
  refine va_sld hx hb hX hbl hbA hB.2.2 e9.1 dL_law_39 ?_
  rw [e9.2]
  refine e_Iv (S := Unit) (As := [.int x2]) (rest := [.ref rn]) (wc := [(rn, .inr (4, [.int 0]))]) (wr := (wF [cU cyI cyB cyO ua ub up aw asq (fun k => k + 2) (fun _ => 0) υ0 (fun _ => σ0) (fun _ => 0) (fun _ => τ0) 1, [(bu, .inl (cyI, 8, .inl (fun _ => 0)))]])) (w1 := fun u3 => [(rn, .inr (4, [.int x2]))]) ⟨hx, hb, hml, hown, hts⟩ (kX4_init l dC dI rn H.size) (cwI 1 hts (gv_wsX4_init hgb) rfl rfl rfl hq8 hq10 hq9 rfl (by decide +kernel) ⟨(Nat.le_of_ble_eq_true rfl), (Nat.le_of_ble_eq_true rfl)⟩) (pcut_pre (hB.perm (wperm (L' := [[(rn, .inr (4, [.int 0]))], cU cyI cyB cyO ua ub up aw asq (fun k => k + 2) (fun _ => 0) υ0 (fun _ => σ0) (fun _ => 0) (fun _ => τ0) 1, [(bu, .inl (cyI, 8, .inl (fun _ => 0)))]]) [2, 0, 1] (by decide +kernel) rfl rfl)) (hK.sub [] rfl) [.ref rn, .int x2]) hB hA (wperm (L' := [[(rn, .inr (4, [.int 0]))], cU cyI cyB cyO ua ub up aw asq (fun k => k + 2) (fun _ => 0) υ0 (fun _ => σ0) (fun _ => 0) (fun _ => τ0) 1, [(bu, .inl (cyI, 8, .inl (fun _ => 0)))]]) [2, 0, 1] (by decide +kernel) rfl rfl) rfl hl.1 rfl (Nat.le_of_ble_eq_true rfl) dL_law_40 ⟨Nat.le_trans (m := 500000) (by show _ ≤ 500000; omega) rm_c, Nat.le_trans (m := 6000000) (by show _ ≤ 6000000; omega) rm_s⟩ ?_
  clear hB locs H
  intro u3 H locs _ hB
  replace hB := hB.perm wF_un1
  replace hB := hB.perm (wperm (L' := [cU cyI cyB cyO ua ub up aw asq (fun k => k + 2) (fun _ => 0) υ0 (fun _ => σ0) (fun _ => 0) (fun _ => τ0) 1, [(bu, .inl (cyI, 8, .inl (fun _ => 0)))], [(rn, .inr (4, [.int x2]))]]) [1, 2, 0] (by decide +kernel) rfl rfl)
  replace hB : Bd (dC, dI) [(cyI, .int), (cyB, .byte), (cyO, .object "UndoJourneys$World"), (cyA, .array .int), (cyT, .object "UndoJourneysLaw$Trip"), (cyW, .object "UndoJourneysLaw$World"), (cyZ, .boolean)] (va_A [] s.heap.size) s (wF [cU cyI cyB cyO ua ub up aw asq (fun k => k + 2) (fun _ => 0) υ0 (fun _ => σ0) (fun _ => 0) (fun _ => τ0) 1, [(bu, .inl (cyI, 8, .inl (fun _ => 0)))], cN rn (fun _ _ => x2)]) H locs := hB
  refine lv_astore (lv' := [(5, .ref rn), (4, .ref bu), (3, .ref ua), (2, .int l2), (0, .ref sb)]) hx hb dL_law_43 hl (by decide) rfl ?_
  clear hl ls
  intro ls hl
  refine lv_aload_n hx hb dL_law_45 rfl (lv_at hl 2 rfl) ?_
  refine g_new (C := RX6) (T := TX6) (N := 6) (ci := 6) hx hb hts hinX6 tyX6 tyX6_ok hown hq11 hq12 hq13 hK hB hA rfl [.int 0, .int 0, .int 0, .int 0, .null, .null] (by decide +kernel) (Nat.le_trans (m := 500000) (by show _ ≤ 500000; omega) rm_c) (Nat.le_trans (m := 6000000) (by show _ ≤ 6000000; omega) rm_s) dL_law_46 ?_
  clear hB locs H
  intro wz H locs hB
  replace hB := hB.perm wF_push
  refine lv_dup hx hb dL_law_49 rfl ?_
  refine e_Nv (S := Nat × Nat) (As := []) (rest := [.ref wz, .ref ua]) (wc := [(wz, .inr (6, [.int 0, .int 0, .int 0, .int 0, .null, .null]))]) (wr := (wF [cU cyI cyB cyO ua ub up aw asq (fun k => k + 2) (fun _ => 0) υ0 (fun _ => σ0) (fun _ => 0) (fun _ => τ0) 1, [(bu, .inl (cyI, 8, .inl (fun _ => 0)))], cN rn (fun _ _ => x2)])) (w1 := fun u4 => cX cyI cyA cyT wz u4.1 u4.2 (fun _ => 0) (fun _ => 0) (fun _ => 0) (fun _ _ => 0) 0 0 (fun _ => 0) ζ0 (fun _ _ => 0) (fun _ _ _ => 0) (fun _ _ _ => 0)) ⟨hx, hb, hml, hown, hts⟩ (kX6_init l dC dI cyI cyA cyT wz H.size) ⟨va_cnB 0 hts (gv_wsX6_init hgb) rfl rfl rfl hN6 hq13 (by decide +kernel) ⟨(Nat.le_of_ble_eq_true rfl), (Nat.le_of_ble_eq_true rfl)⟩, rfl, hq14⟩ (apre_left (fun U hW => ⟨va_AOA.warm hW hAOA, va_AO.warm hW hAOT⟩) (fun _ _ _ _ h => h) (hB.perm (wperm (L' := [[(wz, .inr (6, [.int 0, .int 0, .int 0, .int 0, .null, .null]))], cU cyI cyB cyO ua ub up aw asq (fun k => k + 2) (fun _ => 0) υ0 (fun _ => σ0) (fun _ => 0) (fun _ => τ0) 1, [(bu, .inl (cyI, 8, .inl (fun _ => 0)))], cN rn (fun _ _ => x2)]) [3, 0, 1, 2] (by decide +kernel) rfl rfl)) hA (hK.sub [0, 3, 4] rfl) [.ref wz]) hB hA (wperm (L' := [[(wz, .inr (6, [.int 0, .int 0, .int 0, .int 0, .null, .null]))], cU cyI cyB cyO ua ub up aw asq (fun k => k + 2) (fun _ => 0) υ0 (fun _ => σ0) (fun _ => 0) (fun _ => τ0) 1, [(bu, .inl (cyI, 8, .inl (fun _ => 0)))], cN rn (fun _ _ => x2)]) [3, 0, 1, 2] (by decide +kernel) rfl rfl) rfl hl.1 rfl (Nat.le_of_ble_eq_true rfl) dL_law_50 ⟨Nat.le_trans (m := 500000) (by show _ ≤ 500000; omega) rm_c, Nat.le_trans (m := 6000000) (by show _ ≤ 6000000; omega) rm_s⟩ ?_
  clear hB locs H
  intro u4 H locs _ hB
  replace hB := hB.perm wF_un1
  replace hB := hB.perm (wperm (L' := [cU cyI cyB cyO ua ub up aw asq (fun k => k + 2) (fun _ => 0) υ0 (fun _ => σ0) (fun _ => 0) (fun _ => τ0) 1, [(bu, .inl (cyI, 8, .inl (fun _ => 0)))], cN rn (fun _ _ => x2), cX cyI cyA cyT wz u4.1 u4.2 (fun _ => 0) (fun _ => 0) (fun _ => 0) (fun _ _ => 0) 0 0 (fun _ => 0) ζ0 (fun _ _ => 0) (fun _ _ _ => 0) (fun _ _ _ => 0)]) [1, 2, 3, 0] (by decide +kernel) rfl rfl)
  replace hf := ob1_s hf
  obtain ⟨r5, hc, hf⟩ := hf
  refine e_Si (S := Unit) (As := [.ref ua, .ref wz]) (rest := []) (wc := (wF [cU cyI cyB cyO ua ub up aw asq (fun k => k + 2) (fun _ => 0) υ0 (fun _ => σ0) (fun _ => 0) (fun _ => τ0) 1, cX cyI cyA cyT wz u4.1 u4.2 (fun _ => 0) (fun _ => 0) (fun _ => 0) (fun _ _ => 0) 0 0 (fun _ => 0) ζ0 (fun _ _ => 0) (fun _ _ _ => 0) (fun _ _ _ => 0)])) (wr := (wF [[(bu, .inl (cyI, 8, .inl (fun _ => 0)))], cN rn (fun _ _ => x2)])) (w1 := fun _ => (wF [cU cyI cyB cyO ua ub up aw asq (fun k => k + 2) (fun _ => 0) υ0 (fun _ => σ0) (fun _ => 0) (fun _ => τ0) 1, cX cyI cyA cyT wz u4.1 u4.2 (fun _ => 0) (fun _ => 0) (fun _ => 0) (fun _ _ => 0) 0 0 (fun _ => 0) ζ0 (fun _ _ => 0) (fun _ _ _ => 0) (fun _ _ _ => 0)])) ⟨hx, hb, hml, hown, hts⟩ (kL_agrees l hl0 dC dI cyI cyB cyO cyA cyT cyW cyZ ua ub up aw asq kS wz u4.1 u4.2 (fun _ => 0) (fun _ => 0) (fun _ => 0) (fun _ _ => 0) H.size hc) (va_cwS 2 hts (gv_L_agrees_204 hgb) rfl rfl rfl (by decide +kernel) ⟨(Nat.le_of_ble_eq_true rfl), (Nat.le_of_ble_eq_true rfl)⟩) (epre_left hEV (hB.perm ((wperm (L' := [cU cyI cyB cyO ua ub up aw asq (fun k => k + 2) (fun _ => 0) υ0 (fun _ => σ0) (fun _ => 0) (fun _ => τ0) 1, cX cyI cyA cyT wz u4.1 u4.2 (fun _ => 0) (fun _ => 0) (fun _ => 0) (fun _ _ => 0) 0 0 (fun _ => 0) ζ0 (fun _ _ => 0) (fun _ _ _ => 0) (fun _ _ _ => 0), [(bu, .inl (cyI, 8, .inl (fun _ => 0)))], cN rn (fun _ _ => x2)]) [0, 3, 1, 2] (by decide +kernel) rfl rfl).trans (wF_cut (a := [cU cyI cyB cyO ua ub up aw asq (fun k => k + 2) (fun _ => 0) υ0 (fun _ => σ0) (fun _ => 0) (fun _ => τ0) 1, cX cyI cyA cyT wz u4.1 u4.2 (fun _ => 0) (fun _ => 0) (fun _ => 0) (fun _ _ => 0) 0 0 (fun _ => 0) ζ0 (fun _ _ => 0) (fun _ _ _ => 0) (fun _ _ _ => 0)]) (b := [[(bu, .inl (cyI, 8, .inl (fun _ => 0)))], cN rn (fun _ _ => x2)])))) hA hK [.ref ua, .ref wz]) hB hA ((wperm (L' := [cU cyI cyB cyO ua ub up aw asq (fun k => k + 2) (fun _ => 0) υ0 (fun _ => σ0) (fun _ => 0) (fun _ => τ0) 1, cX cyI cyA cyT wz u4.1 u4.2 (fun _ => 0) (fun _ => 0) (fun _ => 0) (fun _ _ => 0) 0 0 (fun _ => 0) ζ0 (fun _ _ => 0) (fun _ _ _ => 0) (fun _ _ _ => 0), [(bu, .inl (cyI, 8, .inl (fun _ => 0)))], cN rn (fun _ _ => x2)]) [0, 3, 1, 2] (by decide +kernel) rfl rfl).trans (wF_cut (a := [cU cyI cyB cyO ua ub up aw asq (fun k => k + 2) (fun _ => 0) υ0 (fun _ => σ0) (fun _ => 0) (fun _ => τ0) 1, cX cyI cyA cyT wz u4.1 u4.2 (fun _ => 0) (fun _ => 0) (fun _ => 0) (fun _ _ => 0) 0 0 (fun _ => 0) ζ0 (fun _ _ => 0) (fun _ _ _ => 0) (fun _ _ _ => 0)]) (b := [[(bu, .inl (cyI, 8, .inl (fun _ => 0)))], cN rn (fun _ _ => x2)]))) rfl hl.1 rfl (Nat.le_of_ble_eq_true rfl) dL_law_53 ⟨Nat.le_trans (m := 500000) (by show _ ≤ 500000; omega) rm_c, Nat.le_trans (m := 6000000) (by show _ ≤ 6000000; omega) rm_s⟩ ?_
  clear hB locs H
  intro r9 _ H locs hr9 hB
  obtain ⟨hr9, z6⟩ := hr9
  rw [hr9]
  replace hB := hB.perm wF_uncut
  replace hB := Bd.keep (L1 := [cU cyI cyB cyO ua ub up aw asq (fun k => k + 2) (fun _ => 0) υ0 (fun _ => σ0) (fun _ => 0) (fun _ => τ0) 1, [(bu, .inl (cyI, 8, .inl (fun _ => 0)))], cN rn (fun _ _ => x2)]) (L2 := [cX cyI cyA cyT wz u4.1 u4.2 (fun _ => 0) (fun _ => 0) (fun _ => 0) (fun _ _ => 0) 0 0 (fun _ => 0) ζ0 (fun _ _ => 0) (fun _ _ _ => 0) (fun _ _ _ => 0)]) (hB.perm (wperm (L' := [cU cyI cyB cyO ua ub up aw asq (fun k => k + 2) (fun _ => 0) υ0 (fun _ => σ0) (fun _ => 0) (fun _ => τ0) 1, [(bu, .inl (cyI, 8, .inl (fun _ => 0)))], cN rn (fun _ _ => x2), cX cyI cyA cyT wz u4.1 u4.2 (fun _ => 0) (fun _ => 0) (fun _ => 0) (fun _ _ => 0) 0 0 (fun _ => 0) ζ0 (fun _ _ => 0) (fun _ _ _ => 0) (fun _ _ _ => 0)]) [0, 2, 3, 1] (by decide +kernel) rfl rfl))
  replace hf := ob5_s hf
  obtain ⟨v7, pa11, υ12, ω13, sid14, hJ15, hf⟩ := hf
  have kJ16 : (v7 = 0 ∨ v7 = 1) → ∀ (H : Heap) (locs : List Loc) (ls : Array Slot), Bd (dC, dI) [(cyI, .int), (cyB, .byte), (cyO, .object "UndoJourneys$World"), (cyA, .array .int), (cyT, .object "UndoJourneysLaw$Trip"), (cyW, .object "UndoJourneysLaw$World"), (cyZ, .boolean)] (va_A [] s.heap.size) s (wF [cU cyI cyB cyO ua ub up aw asq pa11 (fun _ => 0) υ12 ω13 sid14 (fun _ => τ0) 1, [(bu, .inl (cyI, 8, .inl (fun _ => 0)))], cN rn (fun _ _ => x2)]) H locs → lv_has ls 25 [(5, .ref rn), (4, .ref bu), (3, .ref ua), (2, .int l2), (0, .ref sb)] → W p l e room_1 s m #[Value.ref sb] below meth c H locs (c00 + 2147) (s00 + 15647) (lw_Z below #[Value.ref sb] s) (F0 m 127 ls [.int v7]) := by
    clear hB hl ls locs H
    intro z8 H locs ls hB hl
    refine lv_istore_n (lv' := [(1, .int v7), (5, .ref rn), (4, .ref bu), (3, .ref ua), (2, .int l2), (0, .ref sb)]) hx hb dL_law_127 rfl hl (by decide) rfl ?_
    clear hl ls
    intro ls hl
    refine lv_aload_n hx hb dL_law_128 rfl (lv_at hl 3 rfl) ?_
    refine lv_aload hx hb dL_law_129 (lv_at hl 2 rfl) ?_
    refine lv_aload hx hb dL_law_131 (lv_at hl 1 rfl) ?_
    replace hf := ob16_s hf
    obtain ⟨pa64, β65, υ66, ω67, sid68, τs69, n70, b71, sd72, ζ73, κ74, K, mT, Ns, Φ75, Ψ76, hc, hf⟩ := hf
    refine e_Sr (S := (Nat → Nat → Nat) × Nat × Nat × PA × PA × PA × (Nat → PA)) (As := [.ref ua, .ref bu, .ref rn]) (rest := []) (wc := (wF [cU cyI cyB cyO ua ub up aw asq pa11 (fun _ => 0) υ12 ω13 sid14 (fun _ => τ0) 1, [(bu, .inl (cyI, 8, .inl (fun _ => 0)))], cN rn (fun _ _ => x2)])) (wr := (wF [])) (w1 := fun u9 wa => (wF [cU cyI cyB cyO ua ub up aw (u9.1) pa64 β65 υ66 ω67 sid68 τs69 n70, [(bu, .inl (cyI, 8, .inl b71))], cN rn sd72, cX cyI cyA cyT wa (u9.2.1) (u9.2.2.1) (u9.2.2.2.1) (u9.2.2.2.2.1) (u9.2.2.2.2.2.1) (u9.2.2.2.2.2.2) K mT Ns ζ73 κ74 Φ75 Ψ76])) ⟨hx, hb, hml, hown, hts⟩ (kL_randomWorld l hl0 dC dI cyI cyB cyO cyA cyT cyW cyZ ua ub up aw asq kS bu rn H.size hc) (va_cwS 3 hts (gv_L_randomWorld_219 hgb) rfl rfl rfl (by decide +kernel) ⟨(Nat.le_of_ble_eq_true rfl), (Nat.le_of_ble_eq_true rfl)⟩) (epre_left hEV (hB.perm ((wperm (L' := [cU cyI cyB cyO ua ub up aw asq pa11 (fun _ => 0) υ12 ω13 sid14 (fun _ => τ0) 1, [(bu, .inl (cyI, 8, .inl (fun _ => 0)))], cN rn (fun _ _ => x2)]) [0, 1, 2] (by decide +kernel) rfl rfl).trans (wF_cut (a := [cU cyI cyB cyO ua ub up aw asq pa11 (fun _ => 0) υ12 ω13 sid14 (fun _ => τ0) 1, [(bu, .inl (cyI, 8, .inl (fun _ => 0)))], cN rn (fun _ _ => x2)]) (b := [])))) hA hK [.ref ua, .ref bu, .ref rn]) hB hA ((wperm (L' := [cU cyI cyB cyO ua ub up aw asq pa11 (fun _ => 0) υ12 ω13 sid14 (fun _ => τ0) 1, [(bu, .inl (cyI, 8, .inl (fun _ => 0)))], cN rn (fun _ _ => x2)]) [0, 1, 2] (by decide +kernel) rfl rfl).trans (wF_cut (a := [cU cyI cyB cyO ua ub up aw asq pa11 (fun _ => 0) υ12 ω13 sid14 (fun _ => τ0) 1, [(bu, .inl (cyI, 8, .inl (fun _ => 0)))], cN rn (fun _ _ => x2)]) (b := []))) rfl hl.1 rfl (Nat.le_of_ble_eq_true rfl) dL_law_133 ⟨Nat.le_trans (m := 500000) (by show _ ≤ 500000; omega) rm_c, Nat.le_trans (m := 6000000) (by show _ ≤ 6000000; omega) rm_s⟩ ?_
    clear hB locs H
    intro u9 wa H locs _ hB
    obtain ⟨asr, ks, ts, kr, ta, sa, ra⟩ := u9
    replace hB := hB.perm wF_uncut
    replace hB : Bd (dC, dI) [(cyI, .int), (cyB, .byte), (cyO, .object "UndoJourneys$World"), (cyA, .array .int), (cyT, .object "UndoJourneysLaw$Trip"), (cyW, .object "UndoJourneysLaw$World"), (cyZ, .boolean)] (va_A [] s.heap.size) s (wF [cU cyI cyB cyO ua ub up aw asr pa64 β65 υ66 ω67 sid68 τs69 n70, [(bu, .inl (cyI, 8, .inl b71))], cN rn sd72, cX cyI cyA cyT wa ks ts kr ta sa ra K mT Ns ζ73 κ74 Φ75 Ψ76]) H locs := hB
    replace hf := ob1_s hf
    obtain ⟨_, hKn, hf⟩ := hf
    replace hKn := gLt_s hKn
    replace hf := ob1_s hf
    obtain ⟨_, hmT, hf⟩ := hf
    replace hmT := gLt_s hmT
    replace hf := ob1_s hf
    obtain ⟨_, hNs, hf⟩ := hf
    have hNs := gNs_s hNs
    refine lv_astore (lv' := [(6, .ref wa), (1, .int v7), (5, .ref rn), (4, .ref bu), (3, .ref ua), (2, .int l2), (0, .ref sb)]) hx hb dL_law_136 hl (by decide) rfl ?_
    clear hl ls
    intro ls hl
    refine lv_aload hx hb dL_law_138 (lv_at hl 0 rfl) ?_
    refine lv_ifnonnull (tgt := 145) hx hb dL_law_140 (by decide) ?_
    refine lv_iload_n hx hb dL_law_145 rfl (lv_at hl 1 rfl) ?_
    replace hf := ob1_s hf
    obtain ⟨v77, hJ79, hf⟩ := hf
    have kJ80 : (v77 = 0 ∨ v77 = 1) → ∀ (H : Heap) (locs : List Loc) (ls : Array Slot), Bd (dC, dI) [(cyI, .int), (cyB, .byte), (cyO, .object "UndoJourneys$World"), (cyA, .array .int), (cyT, .object "UndoJourneysLaw$Trip"), (cyW, .object "UndoJourneysLaw$World"), (cyZ, .boolean)] (va_A [] s.heap.size) s (wF [cU cyI cyB cyO ua ub up aw asr pa64 β65 υ66 ω67 sid68 τs69 n70, [(bu, .inl (cyI, 8, .inl b71))], cN rn sd72, cX cyI cyA cyT wa ks ts kr ta sa ra K mT Ns ζ73 κ74 Φ75 Ψ76]) H locs → lv_has ls 25 [(6, .ref wa), (5, .ref rn), (3, .ref ua), (2, .int l2), (0, .ref sb)] → W p l e room_1 s m #[Value.ref sb] below meth c H locs (c00 + 6647) (s00 + 39647) (lw_Z below #[Value.ref sb] s) (F0 m 163 ls [.int v77]) := by
      clear hB hl ls locs H
      intro z78 H locs ls hB hl
      refine lv_istore_n (lv' := [(1, .int v77), (6, .ref wa), (5, .ref rn), (3, .ref ua), (2, .int l2), (0, .ref sb)]) hx hb dL_law_163 rfl hl (by decide) rfl ?_
      clear hl ls
      intro ls hl
      refine lv_bipush (v := (9 : Int32)) hx hb dL_law_164 (by decide) ?_
      refine g_newq 5 rfl hx hb hown hq11 hAOW hK hB hA 9 (by decide) (by decide) (Nat.le_of_ble_eq_true rfl) (Nat.le_trans (m := 500000) (by show _ ≤ 500000; omega) rm_c) (Nat.le_trans (m := 6000000) (by show _ ≤ 6000000; omega) rm_s) dL_law_166 ?_
      clear hB locs H
      intro nb H locs hB
      replace hB := hB.perm wF_push
      replace hB : Bd (dC, dI) [(cyI, .int), (cyB, .byte), (cyO, .object "UndoJourneys$World"), (cyA, .array .int), (cyT, .object "UndoJourneysLaw$Trip"), (cyW, .object "UndoJourneysLaw$World"), (cyZ, .boolean)] (va_A [] s.heap.size) s (wF [cU cyI cyB cyO ua ub up aw asr pa64 β65 υ66 ω67 sid68 τs69 n70, [(bu, .inl (cyI, 8, .inl b71))], cN rn sd72, cX cyI cyA cyT wa ks ts kr ta sa ra K mT Ns ζ73 κ74 Φ75 Ψ76, [(nb, .inl (cyW, 9, .inr (.inr (.inr (.inr (fun j => ((fun _ => none) j).map (fun _ => 0 : PA)))))))], cXs cyI cyA cyT (fun _ => 0 : PA) (fun _ => 0 : PA) (fun _ => 0 : PA) (fun _ _ => 0 : Nat → PA) (fun _ _ => 0 : Nat → PA) (fun _ _ => 0 : Nat → PA) (fun _ _ _ => 0 : Nat → Nat → PA) K mT Ns (fun _ _ _ => 0) (fun _ _ _ => 0) (fun _ _ _ _ => 0) (fun _ _ _ _ => 0) 0]) H locs := hB
      refine lv_astore (lv' := [(7, .ref nb), (1, .int v77), (6, .ref wa), (5, .ref rn), (3, .ref ua), (2, .int l2), (0, .ref sb)]) hx hb dL_law_169 hl (by decide) rfl ?_
      clear hl ls
      intro ls hl
      refine lv_iconst (v := (0 : Int32)) hx hb dL_law_171 (by decide) ?_
      refine lv_istore (lv' := [(8, .int (0 : Int32)), (7, .ref nb), (1, .int v77), (6, .ref wa), (5, .ref rn), (3, .ref ua), (2, .int l2), (0, .ref sb)]) hx hb dL_law_172 hl (by decide) rfl ?_
      clear hl ls
      intro ls hl
      refine lv_iconst (v := (0 : Int32)) hx hb dL_law_174 (by decide) ?_
      refine lv_istore (lv' := [(9, .int (0 : Int32)), (8, .int (0 : Int32)), (7, .ref nb), (1, .int v77), (6, .ref wa), (5, .ref rn), (3, .ref ua), (2, .int l2), (0, .ref sb)]) hx hb dL_law_175 hl (by decide) rfl ?_
      clear hl ls
      intro ls hl
      replace hf := ob17_s hf
      obtain ⟨v138, v139, pa140, υ141, ω142, sid143, sd144, ζ145, κ146, Φ147, Ψ148, pb149, pζ150, pκ151, pΦ152, pΨ153, pc0154, hL164, hf⟩ := hf
      have kE162 : ∀ (pwa155 : PA) (pks156 : PA) (pts157 : PA) (pkr158 : Nat → PA) (pta159 : Nat → PA) (psa160 : Nat → PA) (pra161 : Nat → Nat → PA) (H : Heap) (locs : List Loc) (ls : Array Slot), Bd (dC, dI) [(cyI, .int), (cyB, .byte), (cyO, .object "UndoJourneys$World"), (cyA, .array .int), (cyT, .object "UndoJourneysLaw$Trip"), (cyW, .object "UndoJourneysLaw$World"), (cyZ, .boolean)] (va_A [] s.heap.size) s (wF [cU cyI cyB cyO ua ub up aw asr pa140 β65 υ141 ω142 sid143 τs69 n70, [(bu, .inl (cyI, 8, .inl b71))], cN rn sd144, cX cyI cyA cyT wa ks ts kr ta sa ra K mT Ns ζ145 κ146 Φ147 Ψ148, [(nb, .inl (cyW, 9, .inr (.inr (.inr (.inr (fun j => (pb149 j).map pwa155))))))], cXs cyI cyA cyT pwa155 pks156 pts157 pkr158 pta159 psa160 pra161 K mT Ns pζ150 pκ151 pΦ152 pΨ153 pc0154]) H locs → lv_has ls 25 [(8, .int v138), (7, .ref nb), (1, .int v139), (3, .ref ua), (2, .int l2), (0, .ref sb)] → W p l e room_1 s m #[Value.ref sb] below meth c H locs (c00 + 84120) (s00 + 513920) (lw_Z below #[Value.ref sb] s) (F0 m 1020 ls []) := by
        clear hB hl ls locs H
        intro pwa155 pks156 pts157 pkr158 pta159 psa160 pra161 H locs ls hB hl
        replace hf := ob7_s hf
        obtain ⟨o166, τs167, n168, pa169, υ170, ω171, sid172, hc, hf⟩ := hf
        refine kR1020 hx hb hml hown hts hX hbl hbA hl0 hK hEV hr hlocks hKn hmT hNs hc (by show _ ≤ 500000; omega) (by show _ ≤ 6000000; omega) hB (lv_sub hl [0, 1, 3, 4, 2, 5] rfl) (fun asq173 H locs ls hB hl => ?_)
        have e0 := inj1 hf
        subst e0
        replace hB := Bd.keep (L1 := []) (L2 := [cU cyI cyB cyO ua ub up aw asq173 pa169 β65 υ170 ω171 sid172 τs167 n168, [(bu, .inl (cyI, 8, .inl b71))], cN rn sd144, cX cyI cyA cyT wa ks ts kr ta sa ra K mT Ns ζ145 κ146 Φ147 Ψ148, [(nb, .inl (cyW, 9, .inr (.inr (.inr (.inr (fun j => (pb149 j).map pwa155))))))], cXs cyI cyA cyT pwa155 pks156 pts157 pkr158 pta159 psa160 pra161 K mT Ns pζ150 pκ151 pΦ152 pΨ153 pc0154]) hB
        exact nxt _ _ _ hB (lv_sub hl [0, 1, 2] rfl)
      have key163 : ∀ (n9 : Nat) (v175 : Int32) (v176 : Int32) (v177 : Int32) (pa178 : PA) (υ179 : MS) (ω180 : WS) (sid181 : PA) (sd182 : MS) (ζ183 : MS) (κ184 : MS) (Φ185 : WS) (Ψ186 : WS) (pb187 : (Nat → Option Nat)) (pζ188 : WS) (pκ189 : WS) (pΦ190 : (Nat → WS)) (pΨ191 : (Nat → WS)) (pc0192 : Nat) (pwa193 : PA) (pks194 : PA) (pts195 : PA) (pkr196 : Nat → PA) (pta197 : Nat → PA) (psa198 : Nat → PA) (pra199 : Nat → Nat → PA) (H : Heap) (locs : List Loc) (ls : Array Slot), n9 ≤ 36 → loopM (fun st => mL_law_L177 fu K mT Ns l2 τs69 n70 β65 b71 st.1 st.2.1 st.2.2.1 st.2.2.2.1 st.2.2.2.2.1 st.2.2.2.2.2.1 st.2.2.2.2.2.2.1 st.2.2.2.2.2.2.2.1 st.2.2.2.2.2.2.2.2.1 st.2.2.2.2.2.2.2.2.2.1 st.2.2.2.2.2.2.2.2.2.2.1 st.2.2.2.2.2.2.2.2.2.2.2.1 st.2.2.2.2.2.2.2.2.2.2.2.2.1 st.2.2.2.2.2.2.2.2.2.2.2.2.2.1 st.2.2.2.2.2.2.2.2.2.2.2.2.2.2.1 st.2.2.2.2.2.2.2.2.2.2.2.2.2.2.2.1 st.2.2.2.2.2.2.2.2.2.2.2.2.2.2.2.2.1 st.2.2.2.2.2.2.2.2.2.2.2.2.2.2.2.2.2) n9 (v175, v176, v177, pa178, υ179, ω180, sid181, sd182, ζ183, κ184, Φ185, Ψ186, pb187, pζ188, pκ189, pΦ190, pΨ191, pc0192) = some (v138, v139, pa140, υ141, ω142, sid143, sd144, ζ145, κ146, Φ147, Ψ148, pb149, pζ150, pκ151, pΦ152, pΨ153, pc0154) → Bd (dC, dI) [(cyI, .int), (cyB, .byte), (cyO, .object "UndoJourneys$World"), (cyA, .array .int), (cyT, .object "UndoJourneysLaw$Trip"), (cyW, .object "UndoJourneysLaw$World"), (cyZ, .boolean)] (va_A [] s.heap.size) s (wF [cU cyI cyB cyO ua ub up aw asr pa178 β65 υ179 ω180 sid181 τs69 n70, [(bu, .inl (cyI, 8, .inl b71))], cN rn sd182, cX cyI cyA cyT wa ks ts kr ta sa ra K mT Ns ζ183 κ184 Φ185 Ψ186, [(nb, .inl (cyW, 9, .inr (.inr (.inr (.inr (fun j => (pb187 j).map pwa193))))))], cXs cyI cyA cyT pwa193 pks194 pts195 pkr196 pta197 psa198 pra199 K mT Ns pζ188 pκ189 pΦ190 pΨ191 pc0192]) H locs → lv_has ls 25 [(9, .int v175), (8, .int v176), (7, .ref nb), (1, .int v177), (6, .ref wa), (5, .ref rn), (3, .ref ua), (2, .int l2), (0, .ref sb)] → W p l e room_1 s m #[Value.ref sb] below meth c H locs ((c00 + 6648) + (36 - n9) * 2152) ((s00 + 39656) + (36 - n9) * 13174) (lw_Z below #[Value.ref sb] s) (F0 m 177 ls []) := by
        clear hB hl ls locs H
        intro n9
        induction n9 with
        | zero => intro v175 v176 v177 pa178 υ179 ω180 sid181 sd182 ζ183 κ184 Φ185 Ψ186 pb187 pζ188 pκ189 pΦ190 pΨ191 pc0192 pwa193 pks194 pts195 pkr196 pta197 psa198 pra199 H locs ls _ hL164; exact (loopM_z hL164).elim
        | succ n9 ih9 =>
          intro v175 v176 v177 pa178 υ179 ω180 sid181 sd182 ζ183 κ184 Φ185 Ψ186 pb187 pζ188 pκ189 pΦ190 pΨ191 pc0192 pwa193 pks194 pts195 pkr196 pta197 psa198 pra199 H locs ls hn202 hL164 hB hl
          obtain ⟨cv200, hcv200⟩ : ∃ cv : Nat, cv + 0 = (c00 + 6648) + (36 - (n9 + 1)) * 2152 := ⟨_, Nat.add_zero _⟩
          obtain ⟨scv200, hscv200⟩ : ∃ cv : Nat, cv + 0 = (s00 + 39656) + (36 - (n9 + 1)) * 13174 := ⟨_, Nat.add_zero _⟩
          rw [← hcv200, ← hscv200]
          replace hL164 := loopM_s hL164
          obtain ⟨o201, hg165, hL164⟩ := hL164
          have hg165 : mL_law_L177 fu K mT Ns l2 τs69 n70 β65 b71 v175 v176 v177 pa178 υ179 ω180 sid181 sd182 ζ183 κ184 Φ185 Ψ186 pb187 pζ188 pκ189 pΦ190 pΨ191 pc0192 = some o201 := hg165
          unfold mL_law_L177 at hg165
          refine lv_iload hx hb dL_law_177 (lv_at hl 0 rfl) ?_
          refine lv_bipush (v := (35 : Int32)) hx hb dL_law_179 (by decide) ?_
          replace hg165 := ob1_s hg165
          obtain ⟨t203, hD204, hg165⟩ := hg165
          have kTt203 : t203 = true → ∀ (H : Heap) (locs : List Loc), Bd (dC, dI) [(cyI, .int), (cyB, .byte), (cyO, .object "UndoJourneys$World"), (cyA, .array .int), (cyT, .object "UndoJourneysLaw$Trip"), (cyW, .object "UndoJourneysLaw$World"), (cyZ, .boolean)] (va_A [] s.heap.size) s (wF [cU cyI cyB cyO ua ub up aw asr pa178 β65 υ179 ω180 sid181 τs69 n70, [(bu, .inl (cyI, 8, .inl b71))], cN rn sd182, cX cyI cyA cyT wa ks ts kr ta sa ra K mT Ns ζ183 κ184 Φ185 Ψ186, [(nb, .inl (cyW, 9, .inr (.inr (.inr (.inr (fun j => (pb187 j).map pwa193))))))], cXs cyI cyA cyT pwa193 pks194 pts195 pkr196 pta197 psa198 pra199 K mT Ns pζ188 pκ189 pΦ190 pΨ191 pc0192]) H locs → W p l e room_1 s m #[Value.ref sb] below meth c H locs (cv200 + 0) (scv200 + 0) (lw_Z below #[Value.ref sb] s) (F0 m 188 ls []) := by
            intro ht H locs hB
            have hg165 := cnd_t ht hg165
            replace hg165 := ob17_s hg165
            obtain ⟨o207, o208, pa209, υ210, ω211, sid212, sd213, ζ214, κ215, Φ216, Ψ217, pb218, pζ219, pκ220, pΦ221, pΨ222, pc0223, hc, hg165⟩ := hg165
            refine kR188 hx hb hml hown hts hX hbl hbA hl0 hK hEV hr hlocks hKn hmT hNs hc (by show _ ≤ 500000; omega) (by show _ ≤ 6000000; omega) hB (lv_sub hl [0, 1, 2, 4, 5, 6, 7, 8] rfl) (fun pwa224 pks225 pts226 pkr227 pta228 psa229 pra230 H locs ls hB hl => ?_)
            refine lv_iinc (v := (v175 + (1 : Int32))) (lv' := [(9, .int (v175 + (1 : Int32))), (8, .int o208), (7, .ref nb), (6, .ref wa), (5, .ref rn), (3, .ref ua), (2, .int l2), (1, .int o207), (0, .ref sb)]) hx hb dL_law_1014 hl (k := 0) rfl rfl (by decide) rfl ?_
            clear hl ls
            intro ls hl
            refine lv_goto (tgt := 177) hx hb dL_law_1017 (by decide) ?_
            replace hL164 := el1_r (inj1 hg165) hL164
            refine W.widen (k := (c00 + 6648) + (36 - n9) * 2152) (n := (s00 + 39656) + (36 - n9) * 13174) (by omega) (by omega) ?_
            exact ih9 _ _ _ _ _ _ _ _ _ _ _ _ _ _ _ _ _ _ _ _ _ _ _ _ _ _ _ _ (by omega) hL164 hB (lv_sub hl [0, 1, 2, 7, 3, 4, 5, 6, 8] rfl)
          have kFt203 : t203 = false → ∀ (H : Heap) (locs : List Loc), Bd (dC, dI) [(cyI, .int), (cyB, .byte), (cyO, .object "UndoJourneys$World"), (cyA, .array .int), (cyT, .object "UndoJourneysLaw$Trip"), (cyW, .object "UndoJourneysLaw$World"), (cyZ, .boolean)] (va_A [] s.heap.size) s (wF [cU cyI cyB cyO ua ub up aw asr pa178 β65 υ179 ω180 sid181 τs69 n70, [(bu, .inl (cyI, 8, .inl b71))], cN rn sd182, cX cyI cyA cyT wa ks ts kr ta sa ra K mT Ns ζ183 κ184 Φ185 Ψ186, [(nb, .inl (cyW, 9, .inr (.inr (.inr (.inr (fun j => (pb187 j).map pwa193))))))], cXs cyI cyA cyT pwa193 pks194 pts195 pkr196 pta197 psa198 pra199 K mT Ns pζ188 pκ189 pΦ190 pΨ191 pc0192]) H locs → W p l e room_1 s m #[Value.ref sb] below meth c H locs (cv200 + 0) (scv200 + 0) (lw_Z below #[Value.ref sb] s) (F0 m 1020 ls []) := by
            intro ht H locs hB
            have hg165 := cnd_f ht hg165
            replace hL164 := el1_l (inj1 hg165) hL164
            refine W.widen (k := (c00 + 84120)) (n := (s00 + 513920)) (by omega) (by omega) ?_
            obtain ⟨e0, e1, e2, e3, e4, e5, e6, e7, e8, e9, e10, e11, e12, e13, e14, e15, e16⟩ := inj17 hL164
            subst e0
            subst e1
            subst e2
            subst e3
            subst e4
            subst e5
            subst e6
            subst e7
            subst e8
            subst e9
            subst e10
            subst e11
            subst e12
            subst e13
            subst e14
            subst e15
            subst e16
            exact kE162 _ _ _ _ _ _ _ _ _ _ hB (lv_sub hl [1, 2, 3, 6, 7, 8] rfl)
          refine lv_icmp_ge (tgt := 1020) hx hb dL_law_181 (by decide) (fun c205 => ?_) (fun c205 => ?_)
          · replace hD204 := ite_t c205 hD204
            have e0 := inj1 hD204
            exact kFt203 e0.symm _ _ hB
          · replace hD204 := ite_f c205 hD204
            refine lv_iload_n hx hb dL_law_184 rfl (lv_at hl 3 rfl) ?_
            refine lv_if_eq (tgt := 1020) hx hb dL_law_185 (by decide) (fun c206 => ?_) (fun c206 => ?_)
            · replace hD204 := ite_t c206 hD204
              have e0 := inj1 hD204
              exact kFt203 e0.symm _ _ hB
            · replace hD204 := ite_f c206 hD204
              have e0 := inj1 hD204
              exact kTt203 e0.symm _ _ hB
      refine W.widen (k := (c00 + 6648) + (36 - 36) * 2152) (n := (s00 + 39656) + (36 - 36) * 13174) (by omega) (by omega) ?_
      exact key163 36 _ _ _ _ _ _ _ _ _ _ _ _ _ _ _ _ _ _ _ _ _ _ _ _ _ _ _ _ (Nat.le_refl _) hL164 hB (lv_sub hl [0, 1, 2, 3, 4, 5, 6, 7, 8] rfl)
    replace hJ79 := ob1_s hJ79
    obtain ⟨t81, hD82, hJ79⟩ := hJ79
    have kTt81 : t81 = true → ∀ (H : Heap) (locs : List Loc), Bd (dC, dI) [(cyI, .int), (cyB, .byte), (cyO, .object "UndoJourneys$World"), (cyA, .array .int), (cyT, .object "UndoJourneysLaw$Trip"), (cyW, .object "UndoJourneysLaw$World"), (cyZ, .boolean)] (va_A [] s.heap.size) s (wF [cU cyI cyB cyO ua ub up aw asr pa64 β65 υ66 ω67 sid68 τs69 n70, [(bu, .inl (cyI, 8, .inl b71))], cN rn sd72, cX cyI cyA cyT wa ks ts kr ta sa ra K mT Ns ζ73 κ74 Φ75 Ψ76]) H locs → W p l e room_1 s m #[Value.ref sb] below meth c H locs (c00 + 6647) (s00 + 39647) (lw_Z below #[Value.ref sb] s) (F0 m 158 ls []) := by
      intro ht H locs hB
      have hJ79 := cnd_t ht hJ79
      refine lv_iconst (v := (1 : Int32)) hx hb dL_law_158 (by decide) ?_
      refine lv_goto (tgt := 163) hx hb dL_law_159 (by decide) ?_
      have e0 := inj1 hJ79
      subst e0
      exact kJ80 (Or.inr rfl) _ _ _ hB (lv_sub hl [0, 2, 4, 5, 6] rfl)
    have kFt81 : t81 = false → ∀ (H : Heap) (locs : List Loc), Bd (dC, dI) [(cyI, .int), (cyB, .byte), (cyO, .object "UndoJourneys$World"), (cyA, .array .int), (cyT, .object "UndoJourneysLaw$Trip"), (cyW, .object "UndoJourneysLaw$World"), (cyZ, .boolean)] (va_A [] s.heap.size) s (wF [cU cyI cyB cyO ua ub up aw asr pa64 β65 υ66 ω67 sid68 τs69 n70, [(bu, .inl (cyI, 8, .inl b71))], cN rn sd72, cX cyI cyA cyT wa ks ts kr ta sa ra K mT Ns ζ73 κ74 Φ75 Ψ76]) H locs → W p l e room_1 s m #[Value.ref sb] below meth c H locs (c00 + 6647) (s00 + 39647) (lw_Z below #[Value.ref sb] s) (F0 m 162 ls []) := by
      intro ht H locs hB
      have hJ79 := cnd_f ht hJ79
      refine lv_iconst (v := (0 : Int32)) hx hb dL_law_162 (by decide) ?_
      have e0 := inj1 hJ79
      subst e0
      exact kJ80 (Or.inl rfl) _ _ _ hB (lv_sub hl [0, 2, 4, 5, 6] rfl)
    refine lv_if_eq (tgt := 162) hx hb dL_law_146 (by decide) (fun c83 => ?_) (fun c83 => ?_)
    · replace hD82 := ite_t c83 hD82
      have e0 := inj1 hD82
      refine W.widen (k := (c00 + 6647)) (n := (s00 + 39647)) (by omega) (by omega) ?_
      exact kFt81 e0.symm _ _ hB
    · replace hD82 := ite_f c83 hD82
      refine lv_aload_n hx hb dL_law_149 rfl (lv_at hl 4 rfl) ?_
      refine lv_aload hx hb dL_law_150 (lv_at hl 0 rfl) ?_
      replace hD82 := ob1_s hD82
      obtain ⟨r84, hc, hD82⟩ := hD82
      refine e_Si (S := Unit) (As := [.ref ua, .ref wa]) (rest := []) (wc := (wF [cU cyI cyB cyO ua ub up aw asr pa64 β65 υ66 ω67 sid68 τs69 n70, cX cyI cyA cyT wa ks ts kr ta sa ra K mT Ns ζ73 κ74 Φ75 Ψ76])) (wr := (wF [[(bu, .inl (cyI, 8, .inl b71))], cN rn sd72])) (w1 := fun _ => (wF [cU cyI cyB cyO ua ub up aw asr pa64 β65 υ66 ω67 sid68 τs69 n70, cX cyI cyA cyT wa ks ts kr ta sa ra K mT Ns ζ73 κ74 Φ75 Ψ76])) ⟨hx, hb, hml, hown, hts⟩ (kL_agrees l hl0 dC dI cyI cyB cyO cyA cyT cyW cyZ ua ub up aw asr kS wa ks ts kr ta sa ra H.size hc) (va_cwS 2 hts (gv_L_agrees_204 hgb) rfl rfl rfl (by decide +kernel) ⟨(Nat.le_of_ble_eq_true rfl), (Nat.le_of_ble_eq_true rfl)⟩) (epre_left hEV (hB.perm ((wperm (L' := [cU cyI cyB cyO ua ub up aw asr pa64 β65 υ66 ω67 sid68 τs69 n70, cX cyI cyA cyT wa ks ts kr ta sa ra K mT Ns ζ73 κ74 Φ75 Ψ76, [(bu, .inl (cyI, 8, .inl b71))], cN rn sd72]) [0, 3, 1, 2] (by decide +kernel) rfl rfl).trans (wF_cut (a := [cU cyI cyB cyO ua ub up aw asr pa64 β65 υ66 ω67 sid68 τs69 n70, cX cyI cyA cyT wa ks ts kr ta sa ra K mT Ns ζ73 κ74 Φ75 Ψ76]) (b := [[(bu, .inl (cyI, 8, .inl b71))], cN rn sd72])))) hA hK [.ref ua, .ref wa]) hB hA ((wperm (L' := [cU cyI cyB cyO ua ub up aw asr pa64 β65 υ66 ω67 sid68 τs69 n70, cX cyI cyA cyT wa ks ts kr ta sa ra K mT Ns ζ73 κ74 Φ75 Ψ76, [(bu, .inl (cyI, 8, .inl b71))], cN rn sd72]) [0, 3, 1, 2] (by decide +kernel) rfl rfl).trans (wF_cut (a := [cU cyI cyB cyO ua ub up aw asr pa64 β65 υ66 ω67 sid68 τs69 n70, cX cyI cyA cyT wa ks ts kr ta sa ra K mT Ns ζ73 κ74 Φ75 Ψ76]) (b := [[(bu, .inl (cyI, 8, .inl b71))], cN rn sd72]))) rfl hl.1 rfl (Nat.le_of_ble_eq_true rfl) dL_law_152 ⟨Nat.le_trans (m := 500000) (by show _ ≤ 500000; omega) rm_c, Nat.le_trans (m := 6000000) (by show _ ≤ 6000000; omega) rm_s⟩ ?_
      clear hB locs H
      intro r9 _ H locs hr9 hB
      obtain ⟨hr9, z85⟩ := hr9
      rw [hr9]
      replace hB := hB.perm wF_uncut
      replace hB := hB.perm (wperm (L' := [cU cyI cyB cyO ua ub up aw asr pa64 β65 υ66 ω67 sid68 τs69 n70, [(bu, .inl (cyI, 8, .inl b71))], cN rn sd72, cX cyI cyA cyT wa ks ts kr ta sa ra K mT Ns ζ73 κ74 Φ75 Ψ76]) [0, 2, 3, 1] (by decide +kernel) rfl rfl)
      refine lv_if_eq (tgt := 162) hx hb dL_law_155 (by decide) (fun c86 => ?_) (fun c86 => ?_)
      · replace hD82 := ite_t c86 hD82
        have e0 := inj1 hD82
        exact kFt81 e0.symm _ _ hB
      · replace hD82 := ite_f c86 hD82
        have e0 := inj1 hD82
        exact kTt81 e0.symm _ _ hB
  replace hJ15 := ob5_s hJ15
  obtain ⟨t17, pa18, υ19, ω20, sid21, hD22, hJ15⟩ := hJ15
  have kTt17 : t17 = true → ∀ (H : Heap) (locs : List Loc), Bd (dC, dI) [(cyI, .int), (cyB, .byte), (cyO, .object "UndoJourneys$World"), (cyA, .array .int), (cyT, .object "UndoJourneysLaw$Trip"), (cyW, .object "UndoJourneysLaw$World"), (cyZ, .boolean)] (va_A [] s.heap.size) s (wF [cU cyI cyB cyO ua ub up aw asq pa18 (fun _ => 0) υ19 ω20 sid21 (fun _ => τ0) 1, [(bu, .inl (cyI, 8, .inl (fun _ => 0)))], cN rn (fun _ _ => x2)]) H locs → W p l e room_1 s m #[Value.ref sb] below meth c H locs (c00 + 2147) (s00 + 15647) (lw_Z below #[Value.ref sb] s) (F0 m 122 ls []) := by
    intro ht H locs hB
    have hJ15 := cnd_t ht hJ15
    refine lv_iconst (v := (1 : Int32)) hx hb dL_law_122 (by decide) ?_
    refine lv_goto (tgt := 127) hx hb dL_law_123 (by decide) ?_
    obtain ⟨e0, e1, e2, e3, e4⟩ := inj5 hJ15
    subst e0
    subst e1
    subst e2
    subst e3
    subst e4
    exact kJ16 (Or.inr rfl) _ _ _ hB (lv_sub hl [0, 1, 2, 3, 4] rfl)
  have kFt17 : t17 = false → ∀ (H : Heap) (locs : List Loc), Bd (dC, dI) [(cyI, .int), (cyB, .byte), (cyO, .object "UndoJourneys$World"), (cyA, .array .int), (cyT, .object "UndoJourneysLaw$Trip"), (cyW, .object "UndoJourneysLaw$World"), (cyZ, .boolean)] (va_A [] s.heap.size) s (wF [cU cyI cyB cyO ua ub up aw asq pa18 (fun _ => 0) υ19 ω20 sid21 (fun _ => τ0) 1, [(bu, .inl (cyI, 8, .inl (fun _ => 0)))], cN rn (fun _ _ => x2)]) H locs → W p l e room_1 s m #[Value.ref sb] below meth c H locs (c00 + 2147) (s00 + 15647) (lw_Z below #[Value.ref sb] s) (F0 m 126 ls []) := by
    intro ht H locs hB
    have hJ15 := cnd_f ht hJ15
    refine lv_iconst (v := (0 : Int32)) hx hb dL_law_126 (by decide) ?_
    obtain ⟨e0, e1, e2, e3, e4⟩ := inj5 hJ15
    subst e0
    subst e1
    subst e2
    subst e3
    subst e4
    exact kJ16 (Or.inl rfl) _ _ _ hB (lv_sub hl [0, 1, 2, 3, 4] rfl)
  refine lv_if_eq (tgt := 126) hx hb dL_law_56 (by decide) (fun c23 => ?_) (fun c23 => ?_)
  · replace hD22 := ite_t c23 hD22
    obtain ⟨e0, e1, e2, e3, e4⟩ := inj5 hD22
    subst e1
    subst e2
    subst e3
    subst e4
    refine W.widen (k := (c00 + 2147)) (n := (s00 + 15647)) (by omega) (by omega) ?_
    exact kFt17 e0.symm _ _ hB
  · replace hD22 := ite_f c23 hD22
    refine lv_aload_n hx hb dL_law_59 rfl (lv_at hl 2 rfl) ?_
    replace hD22 := ob1_s hD22
    obtain ⟨r24, hc, hD22⟩ := hD22
    refine e_Vi (S := Unit) (As := []) (rest := []) (wc := cU cyI cyB cyO ua ub up aw asq (fun k => k + 2) (fun _ => 0) υ0 (fun _ => σ0) (fun _ => 0) (fun _ => τ0) 1) (wr := (wF [[(bu, .inl (cyI, 8, .inl (fun _ => 0)))], cN rn (fun _ _ => x2)])) (w1 := fun _ => cU cyI cyB cyO ua ub up aw asq (fun k => k + 2) (fun _ => 0) υ0 (fun _ => σ0) (fun _ => 0) (fun _ => τ0) 1) ⟨hx, hb, hml, hown, hts⟩ (kX3_errorOffset l dC dI cyI cyB cyO ua ub up aw asq H.size hc) (cwV 0 hts (gv_X3_errorOffset_208 hgb) rfl rfl rfl (by decide +kernel) ⟨(Nat.le_of_ble_eq_true rfl), (Nat.le_of_ble_eq_true rfl)⟩) (pcut_pre (hB.perm (wperm (L' := [cU cyI cyB cyO ua ub up aw asq (fun k => k + 2) (fun _ => 0) υ0 (fun _ => σ0) (fun _ => 0) (fun _ => τ0) 1, [(bu, .inl (cyI, 8, .inl (fun _ => 0)))], cN rn (fun _ _ => x2)]) [0, 1, 2] (by decide +kernel) rfl rfl)) (hK.sub [0, 1, 2] rfl) (.ref ua :: [])) hB hA (g_recv (ci := 3) hK (hB.perm (wperm (L' := [cU cyI cyB cyO ua ub up aw asq (fun k => k + 2) (fun _ => 0) υ0 (fun _ => σ0) (fun _ => 0) (fun _ => τ0) 1, [(bu, .inl (cyI, 8, .inl (fun _ => 0)))], cN rn (fun _ _ => x2)]) [0, 1, 2] (by decide +kernel) rfl rfl)) 0 rfl rfl rfl) (wperm (L' := [cU cyI cyB cyO ua ub up aw asq (fun k => k + 2) (fun _ => 0) υ0 (fun _ => σ0) (fun _ => 0) (fun _ => τ0) 1, [(bu, .inl (cyI, 8, .inl (fun _ => 0)))], cN rn (fun _ _ => x2)]) [0, 1, 2] (by decide +kernel) rfl rfl) rfl hl.1 rfl (Nat.le_of_ble_eq_true rfl) dL_law_60 ⟨Nat.le_trans (m := 500000) (by show _ ≤ 500000; omega) rm_c, Nat.le_trans (m := 6000000) (by show _ ≤ 6000000; omega) rm_s⟩ ?_
    clear hB locs H
    intro r9 _ H locs hr9 hB
    rw [hr9]
    replace hB := hB.perm wF_un1
    replace hB := hB.perm (wperm (L' := [cU cyI cyB cyO ua ub up aw asq (fun k => k + 2) (fun _ => 0) υ0 (fun _ => σ0) (fun _ => 0) (fun _ => τ0) 1, [(bu, .inl (cyI, 8, .inl (fun _ => 0)))], cN rn (fun _ _ => x2)]) [0, 1, 2] (by decide +kernel) rfl rfl)
    refine lv_iconst (v := (-1 : Int32)) hx hb dL_law_63 (by decide) ?_
    refine lv_icmp_ne (tgt := 126) hx hb dL_law_64 (by decide) (fun c25 => ?_) (fun c25 => ?_)
    · replace hD22 := ite_f c25 hD22
      obtain ⟨e0, e1, e2, e3, e4⟩ := inj5 hD22
      subst e1
      subst e2
      subst e3
      subst e4
      refine W.widen (k := (c00 + 2147)) (n := (s00 + 15647)) (by omega) (by omega) ?_
      exact kFt17 e0.symm _ _ hB
    · replace hD22 := ite_t c25 hD22
      refine lv_aload_n hx hb dL_law_67 rfl (lv_at hl 2 rfl) ?_
      replace hD22 := ob4_s hD22
      obtain ⟨r26, υ27, ω28, sid29, hc, hD22⟩ := hD22
      refine e_Vi (S := Unit) (As := []) (rest := []) (wc := cU cyI cyB cyO ua ub up aw asq (fun k => k + 2) (fun _ => 0) υ0 (fun _ => σ0) (fun _ => 0) (fun _ => τ0) 1) (wr := (wF [[(bu, .inl (cyI, 8, .inl (fun _ => 0)))], cN rn (fun _ _ => x2)])) (w1 := fun _ => cU cyI cyB cyO ua ub up aw asq (fun k => k + 2) (fun _ => 0) υ27 ω28 sid29 (fun _ => τ0) 1) ⟨hx, hb, hml, hown, hts⟩ (kX3_undo l dC dI cyI cyB cyO ua ub up aw asq H.size hc) (cwV 0 hts (gv_X3_undo_211 hgb) rfl rfl rfl (by decide +kernel) ⟨(Nat.le_of_ble_eq_true rfl), (Nat.le_of_ble_eq_true rfl)⟩) (pcut_pre (hB.perm (wperm (L' := [cU cyI cyB cyO ua ub up aw asq (fun k => k + 2) (fun _ => 0) υ0 (fun _ => σ0) (fun _ => 0) (fun _ => τ0) 1, [(bu, .inl (cyI, 8, .inl (fun _ => 0)))], cN rn (fun _ _ => x2)]) [0, 1, 2] (by decide +kernel) rfl rfl)) (hK.sub [0, 1, 2] rfl) (.ref ua :: [])) hB hA (g_recv (ci := 3) hK (hB.perm (wperm (L' := [cU cyI cyB cyO ua ub up aw asq (fun k => k + 2) (fun _ => 0) υ0 (fun _ => σ0) (fun _ => 0) (fun _ => τ0) 1, [(bu, .inl (cyI, 8, .inl (fun _ => 0)))], cN rn (fun _ _ => x2)]) [0, 1, 2] (by decide +kernel) rfl rfl)) 0 rfl rfl rfl) (wperm (L' := [cU cyI cyB cyO ua ub up aw asq (fun k => k + 2) (fun _ => 0) υ0 (fun _ => σ0) (fun _ => 0) (fun _ => τ0) 1, [(bu, .inl (cyI, 8, .inl (fun _ => 0)))], cN rn (fun _ _ => x2)]) [0, 1, 2] (by decide +kernel) rfl rfl) rfl hl.1 rfl (Nat.le_of_ble_eq_true rfl) dL_law_68 ⟨Nat.le_trans (m := 500000) (by show _ ≤ 500000; omega) rm_c, Nat.le_trans (m := 6000000) (by show _ ≤ 6000000; omega) rm_s⟩ ?_
      clear hB locs H
      intro r9 _ H locs hr9 hB
      rw [hr9]
      replace hB := hB.perm wF_un1
      replace hB := hB.perm (wperm (L' := [cU cyI cyB cyO ua ub up aw asq (fun k => k + 2) (fun _ => 0) υ27 ω28 sid29 (fun _ => τ0) 1, [(bu, .inl (cyI, 8, .inl (fun _ => 0)))], cN rn (fun _ _ => x2)]) [0, 1, 2] (by decide +kernel) rfl rfl)
      refine lv_iconst (v := (-1 : Int32)) hx hb dL_law_71 (by decide) ?_
      refine lv_icmp_ne (tgt := 126) hx hb dL_law_72 (by decide) (fun c30 => ?_) (fun c30 => ?_)
      · replace hD22 := ite_f c30 hD22
        obtain ⟨e0, e1, e2, e3, e4⟩ := inj5 hD22
        subst e1
        subst e2
        subst e3
        subst e4
        refine W.widen (k := (c00 + 2147)) (n := (s00 + 15647)) (by omega) (by omega) ?_
        exact kFt17 e0.symm _ _ hB
      · replace hD22 := ite_t c30 hD22
        refine lv_aload_n hx hb dL_law_75 rfl (lv_at hl 2 rfl) ?_
        refine lv_iconst (v := (0 : Int32)) hx hb dL_law_76 (by decide) ?_
        replace hD22 := ob1_s hD22
        obtain ⟨o31, hc, hD22⟩ := hD22
        obtain ⟨hc, hE9⟩ := hEl_s hc
        replace hD22 := ob1_s hD22
        obtain ⟨r32, er9, hD22⟩ := hD22
        replace er9 := inj1 er9
        replace hD22 := ob1_s hD22
        obtain ⟨pa33, epa33, hD22⟩ := hD22
        replace epa33 := inj1 epa33
        replace hD22 := ob1_s hD22
        obtain ⟨υ34, eυ34, hD22⟩ := hD22
        replace eυ34 := inj1 eυ34
        replace hD22 := ob1_s hD22
        obtain ⟨ω35, eω35, hD22⟩ := hD22
        replace eω35 := inj1 eω35
        replace hD22 := ob1_s hD22
        obtain ⟨sid36, esid36, hD22⟩ := hD22
        replace esid36 := inj1 esid36
        refine e_Wi (S := Unit) (As := [.ref ua, .int (0 : Int32)]) (rest := []) (wc := cU cyI cyB cyO ua ub up aw asq (fun k => k + 2) (fun _ => 0) υ27 ω28 sid29 (fun _ => τ0) 1) (wr := (wF [[(bu, .inl (cyI, 8, .inl (fun _ => 0)))], cN rn (fun _ _ => x2)])) (w1 := fun _ => xU (cU cyI cyB cyO ua ub up aw asq (fun k => k + 2) (fun _ => 0) υ27 ω28 sid29 (fun _ => τ0) 1) (fun x => (cU cyI cyB cyO ua ub up aw asq (x.2.1) (fun _ => 0) (x.2.2.1) (x.2.2.2.1) (x.2.2.2.2) (fun _ => τ0) 1)) o31) ⟨hx, hb, hml, hown, hts⟩ (kL_pass l hl0 dC dI cyI cyB cyO cyA cyT cyW cyZ ua ub up aw asq kS H.size hc hE9) (vx_cwSW 2 hts (gv_L_pass_213 hgb) rfl rfl rfl (by decide +kernel) ⟨(Nat.le_of_ble_eq_true rfl), (Nat.le_of_ble_eq_true rfl)⟩) (epre_left hEV (hB.perm (wperm (L' := [cU cyI cyB cyO ua ub up aw asq (fun k => k + 2) (fun _ => 0) υ27 ω28 sid29 (fun _ => τ0) 1, [(bu, .inl (cyI, 8, .inl (fun _ => 0)))], cN rn (fun _ _ => x2)]) [0, 1, 2] (by decide +kernel) rfl rfl)) hA hK [.ref ua, .int (0 : Int32)]) hB hA (wperm (L' := [cU cyI cyB cyO ua ub up aw asq (fun k => k + 2) (fun _ => 0) υ27 ω28 sid29 (fun _ => τ0) 1, [(bu, .inl (cyI, 8, .inl (fun _ => 0)))], cN rn (fun _ _ => x2)]) [0, 1, 2] (by decide +kernel) rfl rfl) rfl hl.1 rfl (Nat.le_of_ble_eq_true rfl) dL_law_77 ⟨Nat.le_trans (m := 500000) (by show _ ≤ 500000; omega) rm_c, Nat.le_trans (m := 6000000) (by show _ ≤ 6000000; omega) rm_s⟩ ?_
        clear hB locs H
        intro r9 _ H locs hr9 hB
        rw [hr9, er9]
        have e9 : xU (cU cyI cyB cyO ua ub up aw asq (fun k => k + 2) (fun _ => 0) υ27 ω28 sid29 (fun _ => τ0) 1) (fun x => (cU cyI cyB cyO ua ub up aw asq (x.2.1) (fun _ => 0) (x.2.2.1) (x.2.2.2.1) (x.2.2.2.2) (fun _ => τ0) 1)) o31 = cU cyI cyB cyO ua ub up aw asq pa33 (fun _ => 0) υ34 ω35 sid36 (fun _ => τ0) 1 := by rw [← epa33, ← eυ34, ← eω35, ← esid36]; cases o31 <;> rfl
        replace hB := (congrArg (fun z : va_W => Bd (dC, dI) [(cyI, .int), (cyB, .byte), (cyO, .object "UndoJourneys$World"), (cyA, .array .int), (cyT, .object "UndoJourneysLaw$Trip"), (cyW, .object "UndoJourneysLaw$World"), (cyZ, .boolean)] (va_A [] s.heap.size) s (z ++ (wF [[(bu, .inl (cyI, 8, .inl (fun _ => 0)))], cN rn (fun _ _ => x2)])) H locs) e9).mp hB
        replace hB := hB.perm wF_un1
        replace hB := hB.perm (wperm (L' := [cU cyI cyB cyO ua ub up aw asq pa33 (fun _ => 0) υ34 ω35 sid36 (fun _ => τ0) 1, [(bu, .inl (cyI, 8, .inl (fun _ => 0)))], cN rn (fun _ _ => x2)]) [0, 1, 2] (by decide +kernel) rfl rfl)
        refine lv_ldc (v := (-2000000098 : Int32)) hx hb hown hq15 dL_law_80 ?_
        refine lv_icmp_ne (tgt := 126) hx hb dL_law_82 (by decide) (fun c37 => ?_) (fun c37 => ?_)
        · replace hD22 := ite_f c37 hD22
          obtain ⟨e0, e1, e2, e3, e4⟩ := inj5 hD22
          subst e1
          subst e2
          subst e3
          subst e4
          refine W.widen (k := (c00 + 2147)) (n := (s00 + 15647)) (by omega) (by omega) ?_
          exact kFt17 e0.symm _ _ hB
        · replace hD22 := ite_t c37 hD22
          refine lv_aload_n hx hb dL_law_85 rfl (lv_at hl 2 rfl) ?_
          refine lv_bipush (v := (9 : Int32)) hx hb dL_law_86 (by decide) ?_
          replace hD22 := ob1_s hD22
          obtain ⟨o38, hc, hD22⟩ := hD22
          obtain ⟨hc, hE9⟩ := hEl_s hc
          replace hD22 := ob1_s hD22
          obtain ⟨r39, er9, hD22⟩ := hD22
          replace er9 := inj1 er9
          replace hD22 := ob1_s hD22
          obtain ⟨pa40, epa40, hD22⟩ := hD22
          replace epa40 := inj1 epa40
          replace hD22 := ob1_s hD22
          obtain ⟨υ41, eυ41, hD22⟩ := hD22
          replace eυ41 := inj1 eυ41
          replace hD22 := ob1_s hD22
          obtain ⟨ω42, eω42, hD22⟩ := hD22
          replace eω42 := inj1 eω42
          replace hD22 := ob1_s hD22
          obtain ⟨sid43, esid43, hD22⟩ := hD22
          replace esid43 := inj1 esid43
          refine e_Wi (S := Unit) (As := [.ref ua, .int (9 : Int32)]) (rest := []) (wc := cU cyI cyB cyO ua ub up aw asq pa33 (fun _ => 0) υ34 ω35 sid36 (fun _ => τ0) 1) (wr := (wF [[(bu, .inl (cyI, 8, .inl (fun _ => 0)))], cN rn (fun _ _ => x2)])) (w1 := fun _ => xU (cU cyI cyB cyO ua ub up aw asq pa33 (fun _ => 0) υ34 ω35 sid36 (fun _ => τ0) 1) (fun x => (cU cyI cyB cyO ua ub up aw asq (x.2.1) (fun _ => 0) (x.2.2.1) (x.2.2.2.1) (x.2.2.2.2) (fun _ => τ0) 1)) o38) ⟨hx, hb, hml, hown, hts⟩ (kL_pass l hl0 dC dI cyI cyB cyO cyA cyT cyW cyZ ua ub up aw asq kS H.size hc hE9) (vx_cwSW 2 hts (gv_L_pass_213 hgb) rfl rfl rfl (by decide +kernel) ⟨(Nat.le_of_ble_eq_true rfl), (Nat.le_of_ble_eq_true rfl)⟩) (epre_left hEV (hB.perm (wperm (L' := [cU cyI cyB cyO ua ub up aw asq pa33 (fun _ => 0) υ34 ω35 sid36 (fun _ => τ0) 1, [(bu, .inl (cyI, 8, .inl (fun _ => 0)))], cN rn (fun _ _ => x2)]) [0, 1, 2] (by decide +kernel) rfl rfl)) hA hK [.ref ua, .int (9 : Int32)]) hB hA (wperm (L' := [cU cyI cyB cyO ua ub up aw asq pa33 (fun _ => 0) υ34 ω35 sid36 (fun _ => τ0) 1, [(bu, .inl (cyI, 8, .inl (fun _ => 0)))], cN rn (fun _ _ => x2)]) [0, 1, 2] (by decide +kernel) rfl rfl) rfl hl.1 rfl (Nat.le_of_ble_eq_true rfl) dL_law_88 ⟨Nat.le_trans (m := 500000) (by show _ ≤ 500000; omega) rm_c, Nat.le_trans (m := 6000000) (by show _ ≤ 6000000; omega) rm_s⟩ ?_
          clear hB locs H
          intro r9 _ H locs hr9 hB
          rw [hr9, er9]
          have e9 : xU (cU cyI cyB cyO ua ub up aw asq pa33 (fun _ => 0) υ34 ω35 sid36 (fun _ => τ0) 1) (fun x => (cU cyI cyB cyO ua ub up aw asq (x.2.1) (fun _ => 0) (x.2.2.1) (x.2.2.2.1) (x.2.2.2.2) (fun _ => τ0) 1)) o38 = cU cyI cyB cyO ua ub up aw asq pa40 (fun _ => 0) υ41 ω42 sid43 (fun _ => τ0) 1 := by rw [← epa40, ← eυ41, ← eω42, ← esid43]; cases o38 <;> rfl
          replace hB := (congrArg (fun z : va_W => Bd (dC, dI) [(cyI, .int), (cyB, .byte), (cyO, .object "UndoJourneys$World"), (cyA, .array .int), (cyT, .object "UndoJourneysLaw$Trip"), (cyW, .object "UndoJourneysLaw$World"), (cyZ, .boolean)] (va_A [] s.heap.size) s (z ++ (wF [[(bu, .inl (cyI, 8, .inl (fun _ => 0)))], cN rn (fun _ _ => x2)])) H locs) e9).mp hB
          replace hB := hB.perm wF_un1
          replace hB := hB.perm (wperm (L' := [cU cyI cyB cyO ua ub up aw asq pa40 (fun _ => 0) υ41 ω42 sid43 (fun _ => τ0) 1, [(bu, .inl (cyI, 8, .inl (fun _ => 0)))], cN rn (fun _ _ => x2)]) [0, 1, 2] (by decide +kernel) rfl rfl)
          refine lv_if_ne (tgt := 126) hx hb dL_law_91 (by decide) (fun c44 => ?_) (fun c44 => ?_)
          · replace hD22 := ite_f c44 hD22
            obtain ⟨e0, e1, e2, e3, e4⟩ := inj5 hD22
            subst e1
            subst e2
            subst e3
            subst e4
            refine W.widen (k := (c00 + 2147)) (n := (s00 + 15647)) (by omega) (by omega) ?_
            exact kFt17 e0.symm _ _ hB
          · replace hD22 := ite_t c44 hD22
            refine lv_aload_n hx hb dL_law_94 rfl (lv_at hl 2 rfl) ?_
            replace hD22 := ob4_s hD22
            obtain ⟨r45, υ46, ω47, sid48, hc, hD22⟩ := hD22
            refine e_Vi (S := Unit) (As := []) (rest := []) (wc := cU cyI cyB cyO ua ub up aw asq pa40 (fun _ => 0) υ41 ω42 sid43 (fun _ => τ0) 1) (wr := (wF [[(bu, .inl (cyI, 8, .inl (fun _ => 0)))], cN rn (fun _ _ => x2)])) (w1 := fun _ => cU cyI cyB cyO ua ub up aw asq pa40 (fun _ => 0) υ46 ω47 sid48 (fun _ => τ0) 1) ⟨hx, hb, hml, hown, hts⟩ (kX3_undo l dC dI cyI cyB cyO ua ub up aw asq H.size hc) (cwV 0 hts (gv_X3_undo_211 hgb) rfl rfl rfl (by decide +kernel) ⟨(Nat.le_of_ble_eq_true rfl), (Nat.le_of_ble_eq_true rfl)⟩) (pcut_pre (hB.perm (wperm (L' := [cU cyI cyB cyO ua ub up aw asq pa40 (fun _ => 0) υ41 ω42 sid43 (fun _ => τ0) 1, [(bu, .inl (cyI, 8, .inl (fun _ => 0)))], cN rn (fun _ _ => x2)]) [0, 1, 2] (by decide +kernel) rfl rfl)) (hK.sub [0, 1, 2] rfl) (.ref ua :: [])) hB hA (g_recv (ci := 3) hK (hB.perm (wperm (L' := [cU cyI cyB cyO ua ub up aw asq pa40 (fun _ => 0) υ41 ω42 sid43 (fun _ => τ0) 1, [(bu, .inl (cyI, 8, .inl (fun _ => 0)))], cN rn (fun _ _ => x2)]) [0, 1, 2] (by decide +kernel) rfl rfl)) 0 rfl rfl rfl) (wperm (L' := [cU cyI cyB cyO ua ub up aw asq pa40 (fun _ => 0) υ41 ω42 sid43 (fun _ => τ0) 1, [(bu, .inl (cyI, 8, .inl (fun _ => 0)))], cN rn (fun _ _ => x2)]) [0, 1, 2] (by decide +kernel) rfl rfl) rfl hl.1 rfl (Nat.le_of_ble_eq_true rfl) dL_law_95 ⟨Nat.le_trans (m := 500000) (by show _ ≤ 500000; omega) rm_c, Nat.le_trans (m := 6000000) (by show _ ≤ 6000000; omega) rm_s⟩ ?_
            clear hB locs H
            intro r9 _ H locs hr9 hB
            rw [hr9]
            replace hB := hB.perm wF_un1
            replace hB := hB.perm (wperm (L' := [cU cyI cyB cyO ua ub up aw asq pa40 (fun _ => 0) υ46 ω47 sid48 (fun _ => τ0) 1, [(bu, .inl (cyI, 8, .inl (fun _ => 0)))], cN rn (fun _ _ => x2)]) [0, 1, 2] (by decide +kernel) rfl rfl)
            refine lv_if_ne (tgt := 126) hx hb dL_law_98 (by decide) (fun c49 => ?_) (fun c49 => ?_)
            · replace hD22 := ite_f c49 hD22
              obtain ⟨e0, e1, e2, e3, e4⟩ := inj5 hD22
              subst e1
              subst e2
              subst e3
              subst e4
              refine W.widen (k := (c00 + 2147)) (n := (s00 + 15647)) (by omega) (by omega) ?_
              exact kFt17 e0.symm _ _ hB
            · replace hD22 := ite_t c49 hD22
              refine lv_aload_n hx hb dL_law_101 rfl (lv_at hl 2 rfl) ?_
              refine lv_iconst (v := (0 : Int32)) hx hb dL_law_102 (by decide) ?_
              refine lv_iconst (v := (1 : Int32)) hx hb dL_law_103 (by decide) ?_
              replace hD22 := ob1_s hD22
              obtain ⟨o50, hc, hD22⟩ := hD22
              obtain ⟨hc, hE9⟩ := hEl_s hc
              replace hD22 := ob1_s hD22
              obtain ⟨r51, er9, hD22⟩ := hD22
              replace er9 := inj1 er9
              replace hD22 := ob1_s hD22
              obtain ⟨pa52, epa52, hD22⟩ := hD22
              replace epa52 := inj1 epa52
              replace hD22 := ob1_s hD22
              obtain ⟨υ53, eυ53, hD22⟩ := hD22
              replace eυ53 := inj1 eυ53
              replace hD22 := ob1_s hD22
              obtain ⟨ω54, eω54, hD22⟩ := hD22
              replace eω54 := inj1 eω54
              replace hD22 := ob1_s hD22
              obtain ⟨sid55, esid55, hD22⟩ := hD22
              replace esid55 := inj1 esid55
              refine e_Wi (S := Unit) (As := [.ref ua, .int (0 : Int32), .int (1 : Int32)]) (rest := []) (wc := cU cyI cyB cyO ua ub up aw asq pa40 (fun _ => 0) υ46 ω47 sid48 (fun _ => τ0) 1) (wr := (wF [[(bu, .inl (cyI, 8, .inl (fun _ => 0)))], cN rn (fun _ _ => x2)])) (w1 := fun _ => xU (cU cyI cyB cyO ua ub up aw asq pa40 (fun _ => 0) υ46 ω47 sid48 (fun _ => τ0) 1) (fun x => (cU cyI cyB cyO ua ub up aw asq (x.2.1) (fun _ => 0) (x.2.2.1) (x.2.2.2.1) (x.2.2.2.2) (fun _ => τ0) 1)) o50) ⟨hx, hb, hml, hown, hts⟩ (kL_restock l hl0 dC dI cyI cyB cyO cyA cyT cyW cyZ ua ub up aw asq kS H.size hc hE9) (vx_cwSW 3 hts (gv_L_restock_215 hgb) rfl rfl rfl (by decide +kernel) ⟨(Nat.le_of_ble_eq_true rfl), (Nat.le_of_ble_eq_true rfl)⟩) (epre_left hEV (hB.perm (wperm (L' := [cU cyI cyB cyO ua ub up aw asq pa40 (fun _ => 0) υ46 ω47 sid48 (fun _ => τ0) 1, [(bu, .inl (cyI, 8, .inl (fun _ => 0)))], cN rn (fun _ _ => x2)]) [0, 1, 2] (by decide +kernel) rfl rfl)) hA hK [.ref ua, .int (0 : Int32), .int (1 : Int32)]) hB hA (wperm (L' := [cU cyI cyB cyO ua ub up aw asq pa40 (fun _ => 0) υ46 ω47 sid48 (fun _ => τ0) 1, [(bu, .inl (cyI, 8, .inl (fun _ => 0)))], cN rn (fun _ _ => x2)]) [0, 1, 2] (by decide +kernel) rfl rfl) rfl hl.1 rfl (Nat.le_of_ble_eq_true rfl) dL_law_104 ⟨Nat.le_trans (m := 500000) (by show _ ≤ 500000; omega) rm_c, Nat.le_trans (m := 6000000) (by show _ ≤ 6000000; omega) rm_s⟩ ?_
              clear hB locs H
              intro r9 _ H locs hr9 hB
              rw [hr9, er9]
              have e9 : xU (cU cyI cyB cyO ua ub up aw asq pa40 (fun _ => 0) υ46 ω47 sid48 (fun _ => τ0) 1) (fun x => (cU cyI cyB cyO ua ub up aw asq (x.2.1) (fun _ => 0) (x.2.2.1) (x.2.2.2.1) (x.2.2.2.2) (fun _ => τ0) 1)) o50 = cU cyI cyB cyO ua ub up aw asq pa52 (fun _ => 0) υ53 ω54 sid55 (fun _ => τ0) 1 := by rw [← epa52, ← eυ53, ← eω54, ← esid55]; cases o50 <;> rfl
              replace hB := (congrArg (fun z : va_W => Bd (dC, dI) [(cyI, .int), (cyB, .byte), (cyO, .object "UndoJourneys$World"), (cyA, .array .int), (cyT, .object "UndoJourneysLaw$Trip"), (cyW, .object "UndoJourneysLaw$World"), (cyZ, .boolean)] (va_A [] s.heap.size) s (z ++ (wF [[(bu, .inl (cyI, 8, .inl (fun _ => 0)))], cN rn (fun _ _ => x2)])) H locs) e9).mp hB
              replace hB := hB.perm wF_un1
              replace hB := hB.perm (wperm (L' := [cU cyI cyB cyO ua ub up aw asq pa52 (fun _ => 0) υ53 ω54 sid55 (fun _ => τ0) 1, [(bu, .inl (cyI, 8, .inl (fun _ => 0)))], cN rn (fun _ _ => x2)]) [0, 1, 2] (by decide +kernel) rfl rfl)
              refine lv_ldc (v := (-2000000097 : Int32)) hx hb hown hq16 dL_law_107 ?_
              refine lv_icmp_ne (tgt := 126) hx hb dL_law_109 (by decide) (fun c56 => ?_) (fun c56 => ?_)
              · replace hD22 := ite_f c56 hD22
                obtain ⟨e0, e1, e2, e3, e4⟩ := inj5 hD22
                subst e1
                subst e2
                subst e3
                subst e4
                refine W.widen (k := (c00 + 2147)) (n := (s00 + 15647)) (by omega) (by omega) ?_
                exact kFt17 e0.symm _ _ hB
              · replace hD22 := ite_t c56 hD22
                refine lv_aload_n hx hb dL_law_112 rfl (lv_at hl 2 rfl) ?_
                refine lv_iconst (v := (0 : Int32)) hx hb dL_law_113 (by decide) ?_
                replace hD22 := ob1_s hD22
                obtain ⟨o57, hc, hD22⟩ := hD22
                obtain ⟨hc, hE9⟩ := hEl_s hc
                replace hD22 := ob1_s hD22
                obtain ⟨r58, er9, hD22⟩ := hD22
                replace er9 := inj1 er9
                replace hD22 := ob1_s hD22
                obtain ⟨pa59, epa59, hD22⟩ := hD22
                replace epa59 := inj1 epa59
                replace hD22 := ob1_s hD22
                obtain ⟨υ60, eυ60, hD22⟩ := hD22
                replace eυ60 := inj1 eυ60
                replace hD22 := ob1_s hD22
                obtain ⟨ω61, eω61, hD22⟩ := hD22
                replace eω61 := inj1 eω61
                replace hD22 := ob1_s hD22
                obtain ⟨sid62, esid62, hD22⟩ := hD22
                replace esid62 := inj1 esid62
                refine e_Wi (S := Unit) (As := [.ref ua, .int (0 : Int32)]) (rest := []) (wc := cU cyI cyB cyO ua ub up aw asq pa52 (fun _ => 0) υ53 ω54 sid55 (fun _ => τ0) 1) (wr := (wF [[(bu, .inl (cyI, 8, .inl (fun _ => 0)))], cN rn (fun _ _ => x2)])) (w1 := fun _ => xU (cU cyI cyB cyO ua ub up aw asq pa52 (fun _ => 0) υ53 ω54 sid55 (fun _ => τ0) 1) (fun x => (cU cyI cyB cyO ua ub up aw asq (x.2.1) (fun _ => 0) (x.2.2.1) (x.2.2.2.1) (x.2.2.2.2) (fun _ => τ0) 1)) o57) ⟨hx, hb, hml, hown, hts⟩ (kL_settle l hl0 dC dI cyI cyB cyO cyA cyT cyW cyZ ua ub up aw asq kS H.size hc hE9) (vx_cwSW 2 hts (gv_L_settle_217 hgb) rfl rfl rfl (by decide +kernel) ⟨(Nat.le_of_ble_eq_true rfl), (Nat.le_of_ble_eq_true rfl)⟩) (epre_left hEV (hB.perm (wperm (L' := [cU cyI cyB cyO ua ub up aw asq pa52 (fun _ => 0) υ53 ω54 sid55 (fun _ => τ0) 1, [(bu, .inl (cyI, 8, .inl (fun _ => 0)))], cN rn (fun _ _ => x2)]) [0, 1, 2] (by decide +kernel) rfl rfl)) hA hK [.ref ua, .int (0 : Int32)]) hB hA (wperm (L' := [cU cyI cyB cyO ua ub up aw asq pa52 (fun _ => 0) υ53 ω54 sid55 (fun _ => τ0) 1, [(bu, .inl (cyI, 8, .inl (fun _ => 0)))], cN rn (fun _ _ => x2)]) [0, 1, 2] (by decide +kernel) rfl rfl) rfl hl.1 rfl (Nat.le_of_ble_eq_true rfl) dL_law_114 ⟨Nat.le_trans (m := 500000) (by show _ ≤ 500000; omega) rm_c, Nat.le_trans (m := 6000000) (by show _ ≤ 6000000; omega) rm_s⟩ ?_
                clear hB locs H
                intro r9 _ H locs hr9 hB
                rw [hr9, er9]
                have e9 : xU (cU cyI cyB cyO ua ub up aw asq pa52 (fun _ => 0) υ53 ω54 sid55 (fun _ => τ0) 1) (fun x => (cU cyI cyB cyO ua ub up aw asq (x.2.1) (fun _ => 0) (x.2.2.1) (x.2.2.2.1) (x.2.2.2.2) (fun _ => τ0) 1)) o57 = cU cyI cyB cyO ua ub up aw asq pa59 (fun _ => 0) υ60 ω61 sid62 (fun _ => τ0) 1 := by rw [← epa59, ← eυ60, ← eω61, ← esid62]; cases o57 <;> rfl
                replace hB := (congrArg (fun z : va_W => Bd (dC, dI) [(cyI, .int), (cyB, .byte), (cyO, .object "UndoJourneys$World"), (cyA, .array .int), (cyT, .object "UndoJourneysLaw$Trip"), (cyW, .object "UndoJourneysLaw$World"), (cyZ, .boolean)] (va_A [] s.heap.size) s (z ++ (wF [[(bu, .inl (cyI, 8, .inl (fun _ => 0)))], cN rn (fun _ _ => x2)])) H locs) e9).mp hB
                replace hB := hB.perm wF_un1
                replace hB := hB.perm (wperm (L' := [cU cyI cyB cyO ua ub up aw asq pa59 (fun _ => 0) υ60 ω61 sid62 (fun _ => τ0) 1, [(bu, .inl (cyI, 8, .inl (fun _ => 0)))], cN rn (fun _ _ => x2)]) [0, 1, 2] (by decide +kernel) rfl rfl)
                refine lv_ldc (v := (-2000000097 : Int32)) hx hb hown hq16 dL_law_117 ?_
                refine lv_icmp_ne (tgt := 126) hx hb dL_law_119 (by decide) (fun c63 => ?_) (fun c63 => ?_)
                · replace hD22 := ite_f c63 hD22
                  obtain ⟨e0, e1, e2, e3, e4⟩ := inj5 hD22
                  subst e1
                  subst e2
                  subst e3
                  subst e4
                  exact kFt17 e0.symm _ _ hB
                · replace hD22 := ite_t c63 hD22
                  obtain ⟨e0, e1, e2, e3, e4⟩ := inj5 hD22
                  subst e1
                  subst e2
                  subst e3
                  subst e4
                  exact kTt17 e0.symm _ _ hB
